section METHS
variable {p : Program} {l : Launch} {e : Env} {s : State} {m : MethodId} {args : Array Value} {below : List Frame} {meth : Method} {c : Code} {H : Heap} {locs : List Loc} {G : va_G} {cy : Nat → ClassId} {B nT : Nat} {ls : Array Slot}
abbrev rmX9_number : Room := { frames := 2, cells := 0, slots := 0, locals := 46 }
def f_X9_number (M : Mem) (a1 : Int32) (a2 : Int64) : Option (Int32 × Mem) :=
  Option.bind (f_X9_isCell (Int32.toInt64 a1)) fun r_1 => if (bI r_1) = 0 then (some ((-2), M)) else (Option.bind (f_X9_tells M a1 1 a2 0 0) fun r_2 => some (r_2.1, r_2.2))
set_option maxRecDepth 100000 in
set_option maxHeartbeats 4000000 in
theorem c_X9_number {l : Launch} {G : va_G} {cy : Nat → ClassId} {B nT : Nat} {M : Mem} {a1 : Int32} {a2 : Int64} {out : Int32 × Mem} (h : f_X9_number M a1 a2 = some out) : Met l yX9_number (wsU yX9_number cX9_number 4 (some .int)) rmX9_number (va_Pc [.ref (B + 119), .int a1, .long a2] (PU G B cy nT M)) (Qi G B cy nT out.1 out.2) 0 0 (FB B) := by
  refine r_met (by decide +kernel) RX9 rfl (Nat.le_of_ble_eq_true rfl) ?_
  intro p e s m args below meth c ls X hP hl
  have hl : lv_has ls 4 [(0, .ref (B + 119)), (1, .int a1), (2, .long a2)] := hl
  have hS : va_S (FB B) s.heap s.heap [] := va_S.rf
  obtain ⟨hx, hb, hr, hml, hown, hts, hKn, hlk⟩ := id X
  unfold f_X9_number at h
  refine lv_iload_n hx hb dX9_number_0 rfl (lv_at hl 1 rfl) ?_
  refine lv_i2l (v := (Int32.toInt64 a1)) hx hb dX9_number_1 rfl ?_
  obtain ⟨r_1, h_1, h⟩ := bd_el h
  refine cl_i (rn_S X hP (c_X9_isCell h_1) k_642 k_643 k_9 k_644 hd_X9_isCell (n := 1) ⟨⟨rfl, rfl⟩, Nat.le_of_ble_eq_true rfl, Nat.le_of_ble_eq_true rfl⟩ (As := [.long (Int32.toInt64 a1)]) (rest := []) rfl hl.1 rfl (Nat.le_of_ble_eq_true rfl) dX9_number_2 ⟨Nat.zero_le _, Nat.zero_le _⟩) hS (fun H locs hP hS => ?_)
  refine lv_if_eq (tgt := 20) hx hb dX9_number_5 (by decide) (fun hc => ?_) (fun hc => ?_)
  · replace h := if_elp h hc
    refine lv_bipush (v := (-2)) hx hb dX9_number_20 (by decide) ?_
    exact r_iret X hP hS (pr1 h) (pr2 h) dX9_number_22
  · replace h := if_eln h hc
    refine lv_aload_n hx hb dX9_number_8 rfl (lv_at hl 0 rfl) ?_
    refine lv_iload_n hx hb dX9_number_9 rfl (lv_at hl 1 rfl) ?_
    refine lv_iconst (v := 1) hx hb dX9_number_10 (by decide) ?_
    refine lv_lload_n hx hb dX9_number_11 rfl (lv_at hl 2 rfl) ?_
    refine lv_iconst (v := 0) hx hb dX9_number_12 (by decide) ?_
    refine lv_iconst (v := 0) hx hb dX9_number_13 (by decide) ?_
    obtain ⟨r_2, h_2, h⟩ := bd_el h
    refine cl_i (rn_V (C := RX9) (ci := 9) X hP (c_X9_tells h_2) kq_119 rfl k_649 k_650 k_906 k_9 k_651 rfl hd_X9_tells (n := 5) ⟨⟨rfl, rfl⟩, Nat.le_of_ble_eq_true rfl, Nat.le_of_ble_eq_true rfl⟩ (As := [.int a1, .int 1, .long a2, .int 0, .int 0]) (rest := []) rfl hl.1 rfl (Nat.le_of_ble_eq_true rfl) dX9_number_14 ⟨Nat.zero_le _, Nat.zero_le _⟩) hS (fun H locs hP hS => ?_)
    refine lv_goto (tgt := 22) hx hb dX9_number_17 (by decide) ?_
    exact r_iret X hP hS (pr1 h) (pr2 h) dX9_number_22
abbrev rmX9_lot : Room := { frames := 2, cells := 0, slots := 0, locals := 46 }
def f_X9_lot_50 (M : Mem) (v1 : Int32) (v2 : Int32) (v3 : Int32) (v4 : Int32) (s0 : Int32) : Option (Int32 × Mem) :=
  if s0 = 0 then (some ((-2), M)) else (Option.bind (f_X9_tells M v1 2 (Int32.toInt64 v4) v2 v3) fun r_1 => some (r_1.1, r_1.2))
set_option maxRecDepth 100000 in
set_option maxHeartbeats 4000000 in
theorem w_X9_lot_50 (X : Cx p s m args meth c cX9_lot RX9 6 (some .int) G cy) {out : Int32 × Mem} {M : Mem} {v1 : Int32} {v2 : Int32} {v3 : Int32} {v4 : Int32} {s0 : Int32} (hP : Pic G B cy nT M H) (hS : va_S (FB B) s.heap H locs) (hl : lv_has ls 6 [(0, .ref (B + 119)), (1, .int v1), (2, .int v2), (3, .int v3), (4, .int v4)]) (h : f_X9_lot_50 M v1 v2 v3 v4 s0 = some out) : W p l e rmX9_lot s m args below meth c H locs 0 0 (MQ below (Qi G B cy nT out.1 out.2) args s 0 0 (FB B)) (F0 m 50 ls [.int s0]) := by
  obtain ⟨hx, hb, hr, hml, hown, hts, hKn, hlk⟩ := id X
  unfold f_X9_lot_50 at h
  refine lv_istore (lv' := [(5, .int s0), (0, .ref (B + 119)), (1, .int v1), (2, .int v2), (3, .int v3), (4, .int v4)]) hx hb dX9_lot_50 hl (by decide) rfl (fun ls hl => ?_)
  refine lv_iload hx hb dX9_lot_52 (lv_at hl 0 rfl) ?_
  refine lv_if_eq (tgt := 71) hx hb dX9_lot_54 (by decide) (fun hc => ?_) (fun hc => ?_)
  · replace h := if_elp h hc
    refine lv_bipush (v := (-2)) hx hb dX9_lot_71 (by decide) ?_
    exact r_iret X hP hS (pr1 h) (pr2 h) dX9_lot_73
  · replace h := if_eln h hc
    refine lv_aload_n hx hb dX9_lot_57 rfl (lv_at hl 1 rfl) ?_
    refine lv_iload_n hx hb dX9_lot_58 rfl (lv_at hl 2 rfl) ?_
    refine lv_iconst (v := 2) hx hb dX9_lot_59 (by decide) ?_
    refine lv_iload hx hb dX9_lot_60 (lv_at hl 5 rfl) ?_
    refine lv_i2l (v := (Int32.toInt64 v4)) hx hb dX9_lot_62 rfl ?_
    refine lv_iload_n hx hb dX9_lot_63 rfl (lv_at hl 3 rfl) ?_
    refine lv_iload_n hx hb dX9_lot_64 rfl (lv_at hl 4 rfl) ?_
    obtain ⟨r_1, h_1, h⟩ := bd_el h
    refine cl_i (rn_V (C := RX9) (ci := 9) X hP (c_X9_tells h_1) kq_119 rfl k_649 k_650 k_906 k_9 k_651 rfl hd_X9_tells (n := 5) ⟨⟨rfl, rfl⟩, Nat.le_of_ble_eq_true rfl, Nat.le_of_ble_eq_true rfl⟩ (As := [.int v1, .int 2, .long (Int32.toInt64 v4), .int v2, .int v3]) (rest := []) rfl hl.1 rfl (Nat.le_of_ble_eq_true rfl) dX9_lot_65 ⟨Nat.zero_le _, Nat.zero_le _⟩) hS (fun H locs hP hS => ?_)
    refine lv_goto (tgt := 73) hx hb dX9_lot_68 (by decide) ?_
    exact r_iret X hP hS (pr1 h) (pr2 h) dX9_lot_73
def f_X9_lot_49 (M : Mem) (v1 : Int32) (v2 : Int32) (v3 : Int32) (v4 : Int32) : Option (Int32 × Mem) :=
  f_X9_lot_50 M v1 v2 v3 v4 0
set_option maxRecDepth 100000 in
set_option maxHeartbeats 4000000 in
theorem w_X9_lot_49 (X : Cx p s m args meth c cX9_lot RX9 6 (some .int) G cy) {out : Int32 × Mem} {M : Mem} {v1 : Int32} {v2 : Int32} {v3 : Int32} {v4 : Int32} (hP : Pic G B cy nT M H) (hS : va_S (FB B) s.heap H locs) (hl : lv_has ls 6 [(0, .ref (B + 119)), (1, .int v1), (2, .int v2), (3, .int v3), (4, .int v4)]) (h : f_X9_lot_49 M v1 v2 v3 v4 = some out) : W p l e rmX9_lot s m args below meth c H locs 0 0 (MQ below (Qi G B cy nT out.1 out.2) args s 0 0 (FB B)) (F0 m 49 ls []) := by
  obtain ⟨hx, hb, hr, hml, hown, hts, hKn, hlk⟩ := id X
  unfold f_X9_lot_49 at h
  refine lv_iconst (v := 0) hx hb dX9_lot_49 (by decide) ?_
  exact w_X9_lot_50 X hP hS (lv_sub hl [0, 1, 2, 3, 4] rfl) h
def f_X9_lot (M : Mem) (a1 : Int32) (a2 : Int32) (a3 : Int32) (a4 : Int32) : Option (Int32 × Mem) :=
  Option.bind (f_X9_isCell (Int32.toInt64 a1)) fun r_1 => if (bI r_1) = 0 then (f_X9_lot_49 M a1 a2 a3 a4) else (Option.bind (f_X9_in (Int32.toInt64 a2) 0 7) fun r_2 => if (bI r_2) = 0 then (f_X9_lot_49 M a1 a2 a3 a4) else (Option.bind (f_X9_in (Int32.toInt64 a3) 0 7) fun r_3 => if (bI r_3) = 0 then (f_X9_lot_49 M a1 a2 a3 a4) else (Option.bind (f_X9_in (Int32.toInt64 a4) 0 1000000000) fun r_4 => if (bI r_4) = 0 then (f_X9_lot_49 M a1 a2 a3 a4) else (f_X9_lot_50 M a1 a2 a3 a4 1))))
set_option maxRecDepth 100000 in
set_option maxHeartbeats 4000000 in
theorem c_X9_lot {l : Launch} {G : va_G} {cy : Nat → ClassId} {B nT : Nat} {M : Mem} {a1 : Int32} {a2 : Int32} {a3 : Int32} {a4 : Int32} {out : Int32 × Mem} (h : f_X9_lot M a1 a2 a3 a4 = some out) : Met l yX9_lot (wsU yX9_lot cX9_lot 6 (some .int)) rmX9_lot (va_Pc [.ref (B + 119), .int a1, .int a2, .int a3, .int a4] (PU G B cy nT M)) (Qi G B cy nT out.1 out.2) 0 0 (FB B) := by
  refine r_met (by decide +kernel) RX9 rfl (Nat.le_of_ble_eq_true rfl) ?_
  intro p e s m args below meth c ls X hP hl
  have hl : lv_has ls 6 [(0, .ref (B + 119)), (1, .int a1), (2, .int a2), (3, .int a3), (4, .int a4)] := hl
  have hS : va_S (FB B) s.heap s.heap [] := va_S.rf
  obtain ⟨hx, hb, hr, hml, hown, hts, hKn, hlk⟩ := id X
  unfold f_X9_lot at h
  refine lv_iload_n hx hb dX9_lot_0 rfl (lv_at hl 1 rfl) ?_
  refine lv_i2l (v := (Int32.toInt64 a1)) hx hb dX9_lot_1 rfl ?_
  obtain ⟨r_1, h_1, h⟩ := bd_el h
  refine cl_i (rn_S X hP (c_X9_isCell h_1) k_642 k_643 k_9 k_644 hd_X9_isCell (n := 1) ⟨⟨rfl, rfl⟩, Nat.le_of_ble_eq_true rfl, Nat.le_of_ble_eq_true rfl⟩ (As := [.long (Int32.toInt64 a1)]) (rest := []) rfl hl.1 rfl (Nat.le_of_ble_eq_true rfl) dX9_lot_2 ⟨Nat.zero_le _, Nat.zero_le _⟩) hS (fun H locs hP hS => ?_)
  refine lv_if_eq (tgt := 49) hx hb dX9_lot_5 (by decide) (fun hc => ?_) (fun hc => ?_)
  · replace h := if_elp h hc
    exact w_X9_lot_49 X hP hS (lv_sub hl [0, 1, 2, 3, 4] rfl) h
  · replace h := if_eln h hc
    refine lv_iload_n hx hb dX9_lot_8 rfl (lv_at hl 2 rfl) ?_
    refine lv_i2l (v := (Int32.toInt64 a2)) hx hb dX9_lot_9 rfl ?_
    refine lv_lconst (v := 0) hx hb dX9_lot_10 rfl ?_
    refine lv_ldc2 (v := 7) hx hb hown (hts _ k_656) dX9_lot_11 ?_
    obtain ⟨r_2, h_2, h⟩ := bd_el h
    refine cl_i (rn_S X hP (c_X9_in h_2) k_646 k_647 k_9 k_648 hd_X9_in (n := 3) ⟨⟨rfl, rfl⟩, Nat.le_of_ble_eq_true rfl, Nat.le_of_ble_eq_true rfl⟩ (As := [.long (Int32.toInt64 a2), .long 0, .long 7]) (rest := []) rfl hl.1 rfl (Nat.le_of_ble_eq_true rfl) dX9_lot_14 ⟨Nat.zero_le _, Nat.zero_le _⟩) hS (fun H locs hP hS => ?_)
    refine lv_if_eq (tgt := 49) hx hb dX9_lot_17 (by decide) (fun hc => ?_) (fun hc => ?_)
    · replace h := if_elp h hc
      exact w_X9_lot_49 X hP hS (lv_sub hl [0, 1, 2, 3, 4] rfl) h
    · replace h := if_eln h hc
      refine lv_iload_n hx hb dX9_lot_20 rfl (lv_at hl 3 rfl) ?_
      refine lv_i2l (v := (Int32.toInt64 a3)) hx hb dX9_lot_21 rfl ?_
      refine lv_lconst (v := 0) hx hb dX9_lot_22 rfl ?_
      refine lv_ldc2 (v := 7) hx hb hown (hts _ k_656) dX9_lot_23 ?_
      obtain ⟨r_3, h_3, h⟩ := bd_el h
      refine cl_i (rn_S X hP (c_X9_in h_3) k_646 k_647 k_9 k_648 hd_X9_in (n := 3) ⟨⟨rfl, rfl⟩, Nat.le_of_ble_eq_true rfl, Nat.le_of_ble_eq_true rfl⟩ (As := [.long (Int32.toInt64 a3), .long 0, .long 7]) (rest := []) rfl hl.1 rfl (Nat.le_of_ble_eq_true rfl) dX9_lot_26 ⟨Nat.zero_le _, Nat.zero_le _⟩) hS (fun H locs hP hS => ?_)
      refine lv_if_eq (tgt := 49) hx hb dX9_lot_29 (by decide) (fun hc => ?_) (fun hc => ?_)
      · replace h := if_elp h hc
        exact w_X9_lot_49 X hP hS (lv_sub hl [0, 1, 2, 3, 4] rfl) h
      · replace h := if_eln h hc
        refine lv_iload hx hb dX9_lot_32 (lv_at hl 4 rfl) ?_
        refine lv_i2l (v := (Int32.toInt64 a4)) hx hb dX9_lot_34 rfl ?_
        refine lv_lconst (v := 0) hx hb dX9_lot_35 rfl ?_
        refine lv_ldc2 (v := 1000000000) hx hb hown (hts _ k_657) dX9_lot_36 ?_
        obtain ⟨r_4, h_4, h⟩ := bd_el h
        refine cl_i (rn_S X hP (c_X9_in h_4) k_646 k_647 k_9 k_648 hd_X9_in (n := 3) ⟨⟨rfl, rfl⟩, Nat.le_of_ble_eq_true rfl, Nat.le_of_ble_eq_true rfl⟩ (As := [.long (Int32.toInt64 a4), .long 0, .long 1000000000]) (rest := []) rfl hl.1 rfl (Nat.le_of_ble_eq_true rfl) dX9_lot_39 ⟨Nat.zero_le _, Nat.zero_le _⟩) hS (fun H locs hP hS => ?_)
        refine lv_if_eq (tgt := 49) hx hb dX9_lot_42 (by decide) (fun hc => ?_) (fun hc => ?_)
        · replace h := if_elp h hc
          exact w_X9_lot_49 X hP hS (lv_sub hl [0, 1, 2, 3, 4] rfl) h
        · replace h := if_eln h hc
          refine lv_iconst (v := 1) hx hb dX9_lot_45 (by decide) ?_
          refine lv_goto (tgt := 50) hx hb dX9_lot_46 (by decide) ?_
          exact w_X9_lot_50 X hP hS (lv_sub hl [0, 1, 2, 3, 4] rfl) h
abbrev rmX9_empty : Room := { frames := 2, cells := 0, slots := 0, locals := 46 }
def f_X9_empty (M : Mem) (a1 : Int32) : Option (Int32 × Mem) :=
  Option.bind (f_X9_isCell (Int32.toInt64 a1)) fun r_1 => if (bI r_1) = 0 then (some ((-2), M)) else (Option.bind (f_X9_tells M a1 0 0 0 0) fun r_2 => some (r_2.1, r_2.2))
set_option maxRecDepth 100000 in
set_option maxHeartbeats 4000000 in
theorem c_X9_empty {l : Launch} {G : va_G} {cy : Nat → ClassId} {B nT : Nat} {M : Mem} {a1 : Int32} {out : Int32 × Mem} (h : f_X9_empty M a1 = some out) : Met l yX9_empty (wsU yX9_empty cX9_empty 2 (some .int)) rmX9_empty (va_Pc [.ref (B + 119), .int a1] (PU G B cy nT M)) (Qi G B cy nT out.1 out.2) 0 0 (FB B) := by
  refine r_met (by decide +kernel) RX9 rfl (Nat.le_of_ble_eq_true rfl) ?_
  intro p e s m args below meth c ls X hP hl
  have hl : lv_has ls 2 [(0, .ref (B + 119)), (1, .int a1)] := hl
  have hS : va_S (FB B) s.heap s.heap [] := va_S.rf
  obtain ⟨hx, hb, hr, hml, hown, hts, hKn, hlk⟩ := id X
  unfold f_X9_empty at h
  refine lv_iload_n hx hb dX9_empty_0 rfl (lv_at hl 1 rfl) ?_
  refine lv_i2l (v := (Int32.toInt64 a1)) hx hb dX9_empty_1 rfl ?_
  obtain ⟨r_1, h_1, h⟩ := bd_el h
  refine cl_i (rn_S X hP (c_X9_isCell h_1) k_642 k_643 k_9 k_644 hd_X9_isCell (n := 1) ⟨⟨rfl, rfl⟩, Nat.le_of_ble_eq_true rfl, Nat.le_of_ble_eq_true rfl⟩ (As := [.long (Int32.toInt64 a1)]) (rest := []) rfl hl.1 rfl (Nat.le_of_ble_eq_true rfl) dX9_empty_2 ⟨Nat.zero_le _, Nat.zero_le _⟩) hS (fun H locs hP hS => ?_)
  refine lv_if_eq (tgt := 20) hx hb dX9_empty_5 (by decide) (fun hc => ?_) (fun hc => ?_)
  · replace h := if_elp h hc
    refine lv_bipush (v := (-2)) hx hb dX9_empty_20 (by decide) ?_
    exact r_iret X hP hS (pr1 h) (pr2 h) dX9_empty_22
  · replace h := if_eln h hc
    refine lv_aload_n hx hb dX9_empty_8 rfl (lv_at hl 0 rfl) ?_
    refine lv_iload_n hx hb dX9_empty_9 rfl (lv_at hl 1 rfl) ?_
    refine lv_iconst (v := 0) hx hb dX9_empty_10 (by decide) ?_
    refine lv_lconst (v := 0) hx hb dX9_empty_11 rfl ?_
    refine lv_iconst (v := 0) hx hb dX9_empty_12 (by decide) ?_
    refine lv_iconst (v := 0) hx hb dX9_empty_13 (by decide) ?_
    obtain ⟨r_2, h_2, h⟩ := bd_el h
    refine cl_i (rn_V (C := RX9) (ci := 9) X hP (c_X9_tells h_2) kq_119 rfl k_649 k_650 k_906 k_9 k_651 rfl hd_X9_tells (n := 5) ⟨⟨rfl, rfl⟩, Nat.le_of_ble_eq_true rfl, Nat.le_of_ble_eq_true rfl⟩ (As := [.int a1, .int 0, .long 0, .int 0, .int 0]) (rest := []) rfl hl.1 rfl (Nat.le_of_ble_eq_true rfl) dX9_empty_14 ⟨Nat.zero_le _, Nat.zero_le _⟩) hS (fun H locs hP hS => ?_)
    refine lv_goto (tgt := 22) hx hb dX9_empty_17 (by decide) ?_
    exact r_iret X hP hS (pr1 h) (pr2 h) dX9_empty_22
abbrev rmX9_holds : Room := { frames := 2, cells := 0, slots := 0, locals := 46 }
def f_X9_holds (M : Mem) (a1 : Int32) : Option (Int32) :=
  Option.bind (f_X9_isCell (Int32.toInt64 a1)) fun r_1 => if (bI r_1) = 0 then (some (-2)) else (gd (inR a1 40) <| some (gI M 120 a1.toNatClampNeg))
set_option maxRecDepth 100000 in
set_option maxHeartbeats 4000000 in
theorem c_X9_holds {l : Launch} {G : va_G} {cy : Nat → ClassId} {B nT : Nat} {M : Mem} {a1 : Int32} {out : Int32} (h : f_X9_holds M a1 = some out) : Met l yX9_holds (wsU yX9_holds cX9_holds 2 (some .int)) rmX9_holds (va_Pc [.ref (B + 119), .int a1] (PU G B cy nT M)) (Qi G B cy nT out M) 0 0 (FB B) := by
  refine r_met (by decide +kernel) RX9 rfl (Nat.le_of_ble_eq_true rfl) ?_
  intro p e s m args below meth c ls X hP hl
  have hl : lv_has ls 2 [(0, .ref (B + 119)), (1, .int a1)] := hl
  have hS : va_S (FB B) s.heap s.heap [] := va_S.rf
  obtain ⟨hx, hb, hr, hml, hown, hts, hKn, hlk⟩ := id X
  unfold f_X9_holds at h
  refine lv_iload_n hx hb dX9_holds_0 rfl (lv_at hl 1 rfl) ?_
  refine lv_i2l (v := (Int32.toInt64 a1)) hx hb dX9_holds_1 rfl ?_
  obtain ⟨r_1, h_1, h⟩ := bd_el h
  refine cl_i (rn_S X hP (c_X9_isCell h_1) k_642 k_643 k_9 k_644 hd_X9_isCell (n := 1) ⟨⟨rfl, rfl⟩, Nat.le_of_ble_eq_true rfl, Nat.le_of_ble_eq_true rfl⟩ (As := [.long (Int32.toInt64 a1)]) (rest := []) rfl hl.1 rfl (Nat.le_of_ble_eq_true rfl) dX9_holds_2 ⟨Nat.zero_le _, Nat.zero_le _⟩) hS (fun H locs hP hS => ?_)
  refine lv_if_eq (tgt := 17) hx hb dX9_holds_5 (by decide) (fun hc => ?_) (fun hc => ?_)
  · replace h := if_elp h hc
    refine lv_bipush (v := (-2)) hx hb dX9_holds_17 (by decide) ?_
    exact r_iret X hP hS (pr0 h) rfl dX9_holds_19
  · replace h := if_eln h hc
    refine lv_aload_n hx hb dX9_holds_8 rfl (lv_at hl 0 rfl) ?_
    refine gf_X9_7 X hP dX9_holds_9 ?_
    refine lv_iload_n hx hb dX9_holds_12 rfl (lv_at hl 1 rfl) ?_
    obtain ⟨g_1, h⟩ := gd_el h
    refine r_iald X hP kq_120 g_1 dX9_holds_13 ?_
    refine lv_goto (tgt := 19) hx hb dX9_holds_14 (by decide) ?_
    exact r_iret X hP hS (pr0 h) rfl dX9_holds_19
abbrev rmX9_value : Room := { frames := 2, cells := 0, slots := 0, locals := 46 }
def f_X9_value (M : Mem) (a1 : Int32) : Option (Int64) :=
  Option.bind (f_X9_isCell (Int32.toInt64 a1)) fun r_1 => if (bI r_1) = 0 then (some 0) else (gd (inR a1 40) <| if (gI M 120 a1.toNatClampNeg) ≤ 0 then (some 0) else (gd (inR a1 40) <| some (gL M 121 a1.toNatClampNeg)))
set_option maxRecDepth 100000 in
set_option maxHeartbeats 4000000 in
theorem c_X9_value {l : Launch} {G : va_G} {cy : Nat → ClassId} {B nT : Nat} {M : Mem} {a1 : Int32} {out : Int64} (h : f_X9_value M a1 = some out) : Met l yX9_value (wsU yX9_value cX9_value 2 (some .long)) rmX9_value (va_Pc [.ref (B + 119), .int a1] (PU G B cy nT M)) (Ql G B cy nT out M) 0 0 (FB B) := by
  refine r_met (by decide +kernel) RX9 rfl (Nat.le_of_ble_eq_true rfl) ?_
  intro p e s m args below meth c ls X hP hl
  have hl : lv_has ls 2 [(0, .ref (B + 119)), (1, .int a1)] := hl
  have hS : va_S (FB B) s.heap s.heap [] := va_S.rf
  obtain ⟨hx, hb, hr, hml, hown, hts, hKn, hlk⟩ := id X
  unfold f_X9_value at h
  refine lv_iload_n hx hb dX9_value_0 rfl (lv_at hl 1 rfl) ?_
  refine lv_i2l (v := (Int32.toInt64 a1)) hx hb dX9_value_1 rfl ?_
  obtain ⟨r_1, h_1, h⟩ := bd_el h
  refine cl_i (rn_S X hP (c_X9_isCell h_1) k_642 k_643 k_9 k_644 hd_X9_isCell (n := 1) ⟨⟨rfl, rfl⟩, Nat.le_of_ble_eq_true rfl, Nat.le_of_ble_eq_true rfl⟩ (As := [.long (Int32.toInt64 a1)]) (rest := []) rfl hl.1 rfl (Nat.le_of_ble_eq_true rfl) dX9_value_2 ⟨Nat.zero_le _, Nat.zero_le _⟩) hS (fun H locs hP hS => ?_)
  refine lv_if_eq (tgt := 26) hx hb dX9_value_5 (by decide) (fun hc => ?_) (fun hc => ?_)
  · replace h := if_elp h hc
    refine lv_lconst (v := 0) hx hb dX9_value_26 rfl ?_
    exact r_lret X hP hS (pr0 h) rfl dX9_value_27
  · replace h := if_eln h hc
    refine lv_aload_n hx hb dX9_value_8 rfl (lv_at hl 0 rfl) ?_
    refine gf_X9_7 X hP dX9_value_9 ?_
    refine lv_iload_n hx hb dX9_value_12 rfl (lv_at hl 1 rfl) ?_
    obtain ⟨g_1, h⟩ := gd_el h
    refine r_iald X hP kq_120 g_1 dX9_value_13 ?_
    refine lv_if_le (tgt := 26) hx hb dX9_value_14 (by decide) (fun hc => ?_) (fun hc => ?_)
    · replace h := if_elp h hc
      refine lv_lconst (v := 0) hx hb dX9_value_26 rfl ?_
      exact r_lret X hP hS (pr0 h) rfl dX9_value_27
    · replace h := if_eln h hc
      refine lv_aload_n hx hb dX9_value_17 rfl (lv_at hl 0 rfl) ?_
      refine gf_X9_13 X hP dX9_value_18 ?_
      refine lv_iload_n hx hb dX9_value_21 rfl (lv_at hl 1 rfl) ?_
      obtain ⟨g_2, h⟩ := gd_el h
      refine r_lald X hP kq_121 g_2 dX9_value_22 ?_
      refine lv_goto (tgt := 27) hx hb dX9_value_23 (by decide) ?_
      exact r_lret X hP hS (pr0 h) rfl dX9_value_27
abbrev rmX9_cell : Room := { frames := 2, cells := 0, slots := 0, locals := 46 }
def f_X9_cell (M : Mem) (a1 : Int32) (a2 : Int32) : Option (Int32) :=
  Option.bind (f_X9_isCell (Int32.toInt64 a1)) fun r_1 => if (bI r_1) = 0 then (some (-2)) else (if a2 = 0 then (gd (inR a1 40) <| some (gI M 124 a1.toNatClampNeg)) else if a2 = 1 then (gd (inR a1 40) <| some (gI M 125 a1.toNatClampNeg)) else if a2 = 2 then (gd (inR a1 40) <| if (gI M 120 a1.toNatClampNeg) = 2 then (gd (inR a1 40) <| some (gI M 122 a1.toNatClampNeg)) else (some (-1))) else if a2 = 3 then (gd (inR a1 40) <| if (gI M 120 a1.toNatClampNeg) = 2 then (gd (inR a1 40) <| some (gI M 123 a1.toNatClampNeg)) else (some (-1))) else some (-2))
set_option maxRecDepth 100000 in
set_option maxHeartbeats 4000000 in
theorem c_X9_cell {l : Launch} {G : va_G} {cy : Nat → ClassId} {B nT : Nat} {M : Mem} {a1 : Int32} {a2 : Int32} {out : Int32} (h : f_X9_cell M a1 a2 = some out) : Met l yX9_cell (wsU yX9_cell cX9_cell 3 (some .int)) rmX9_cell (va_Pc [.ref (B + 119), .int a1, .int a2] (PU G B cy nT M)) (Qi G B cy nT out M) 0 0 (FB B) := by
  refine r_met (by decide +kernel) RX9 rfl (Nat.le_of_ble_eq_true rfl) ?_
  intro p e s m args below meth c ls X hP hl
  have hl : lv_has ls 3 [(0, .ref (B + 119)), (1, .int a1), (2, .int a2)] := hl
  have hS : va_S (FB B) s.heap s.heap [] := va_S.rf
  obtain ⟨hx, hb, hr, hml, hown, hts, hKn, hlk⟩ := id X
  unfold f_X9_cell at h
  refine lv_iload_n hx hb dX9_cell_0 rfl (lv_at hl 1 rfl) ?_
  refine lv_i2l (v := (Int32.toInt64 a1)) hx hb dX9_cell_1 rfl ?_
  obtain ⟨r_1, h_1, h⟩ := bd_el h
  refine cl_i (rn_S X hP (c_X9_isCell h_1) k_642 k_643 k_9 k_644 hd_X9_isCell (n := 1) ⟨⟨rfl, rfl⟩, Nat.le_of_ble_eq_true rfl, Nat.le_of_ble_eq_true rfl⟩ (As := [.long (Int32.toInt64 a1)]) (rest := []) rfl hl.1 rfl (Nat.le_of_ble_eq_true rfl) dX9_cell_2 ⟨Nat.zero_le _, Nat.zero_le _⟩) hS (fun H locs hP hS => ?_)
  refine lv_if_ne (tgt := 11) hx hb dX9_cell_5 (by decide) (fun hc => ?_) (fun hc => ?_)
  · replace h := if_eln h hc
    refine lv_iload_n hx hb dX9_cell_11 rfl (lv_at hl 2 rfl) ?_
    by_cases h_2 : a2 = 0
    · replace h := if_elp h h_2
      refine lv_tableIn (off := 32) (tgt := 44) hx hb dX9_cell_12 (by rw [h_2]; decide) (by rw [h_2]; decide) (by rw [h_2]; rfl) (by decide) ?_
      refine lv_aload_n hx hb dX9_cell_44 rfl (lv_at hl 0 rfl) ?_
      refine gf_X9_23 X hP dX9_cell_45 ?_
      refine lv_iload_n hx hb dX9_cell_48 rfl (lv_at hl 1 rfl) ?_
      obtain ⟨g_1, h⟩ := gd_el h
      refine r_iald X hP kq_124 g_1 dX9_cell_49 ?_
      exact r_iret X hP hS (pr0 h) rfl dX9_cell_50
    · replace h := if_eln h h_2
      by_cases h_3 : a2 = 1
      · replace h := if_elp h h_3
        refine lv_tableIn (off := 39) (tgt := 51) hx hb dX9_cell_12 (by rw [h_3]; decide) (by rw [h_3]; decide) (by rw [h_3]; rfl) (by decide) ?_
        refine lv_aload_n hx hb dX9_cell_51 rfl (lv_at hl 0 rfl) ?_
        refine gf_X9_26 X hP dX9_cell_52 ?_
        refine lv_iload_n hx hb dX9_cell_55 rfl (lv_at hl 1 rfl) ?_
        obtain ⟨g_2, h⟩ := gd_el h
        refine r_iald X hP kq_125 g_2 dX9_cell_56 ?_
        exact r_iret X hP hS (pr0 h) rfl dX9_cell_57
      · replace h := if_eln h h_3
        by_cases h_4 : a2 = 2
        · replace h := if_elp h h_4
          refine lv_tableIn (off := 46) (tgt := 58) hx hb dX9_cell_12 (by rw [h_4]; decide) (by rw [h_4]; decide) (by rw [h_4]; rfl) (by decide) ?_
          refine lv_aload_n hx hb dX9_cell_58 rfl (lv_at hl 0 rfl) ?_
          refine gf_X9_7 X hP dX9_cell_59 ?_
          refine lv_iload_n hx hb dX9_cell_62 rfl (lv_at hl 1 rfl) ?_
          obtain ⟨g_3, h⟩ := gd_el h
          refine r_iald X hP kq_120 g_3 dX9_cell_63 ?_
          refine lv_iconst (v := 2) hx hb dX9_cell_64 (by decide) ?_
          refine lv_icmp_ne (tgt := 77) hx hb dX9_cell_65 (by decide) (fun hc => ?_) (fun hc => ?_)
          · replace h := if_eln h hc
            refine lv_iconst (v := (-1)) hx hb dX9_cell_77 (by decide) ?_
            exact r_iret X hP hS (pr0 h) rfl dX9_cell_78
          · replace h := if_elp h hc
            refine lv_aload_n hx hb dX9_cell_68 rfl (lv_at hl 0 rfl) ?_
            refine gf_X9_17 X hP dX9_cell_69 ?_
            refine lv_iload_n hx hb dX9_cell_72 rfl (lv_at hl 1 rfl) ?_
            obtain ⟨g_4, h⟩ := gd_el h
            refine r_iald X hP kq_122 g_4 dX9_cell_73 ?_
            refine lv_goto (tgt := 78) hx hb dX9_cell_74 (by decide) ?_
            exact r_iret X hP hS (pr0 h) rfl dX9_cell_78
        · replace h := if_eln h h_4
          by_cases h_5 : a2 = 3
          · replace h := if_elp h h_5
            refine lv_tableIn (off := 67) (tgt := 79) hx hb dX9_cell_12 (by rw [h_5]; decide) (by rw [h_5]; decide) (by rw [h_5]; rfl) (by decide) ?_
            refine lv_aload_n hx hb dX9_cell_79 rfl (lv_at hl 0 rfl) ?_
            refine gf_X9_7 X hP dX9_cell_80 ?_
            refine lv_iload_n hx hb dX9_cell_83 rfl (lv_at hl 1 rfl) ?_
            obtain ⟨g_5, h⟩ := gd_el h
            refine r_iald X hP kq_120 g_5 dX9_cell_84 ?_
            refine lv_iconst (v := 2) hx hb dX9_cell_85 (by decide) ?_
            refine lv_icmp_ne (tgt := 98) hx hb dX9_cell_86 (by decide) (fun hc => ?_) (fun hc => ?_)
            · replace h := if_eln h hc
              refine lv_iconst (v := (-1)) hx hb dX9_cell_98 (by decide) ?_
              exact r_iret X hP hS (pr0 h) rfl dX9_cell_99
            · replace h := if_elp h hc
              refine lv_aload_n hx hb dX9_cell_89 rfl (lv_at hl 0 rfl) ?_
              refine gf_X9_20 X hP dX9_cell_90 ?_
              refine lv_iload_n hx hb dX9_cell_93 rfl (lv_at hl 1 rfl) ?_
              obtain ⟨g_6, h⟩ := gd_el h
              refine r_iald X hP kq_123 g_6 dX9_cell_94 ?_
              refine lv_goto (tgt := 99) hx hb dX9_cell_95 (by decide) ?_
              exact r_iret X hP hS (pr0 h) rfl dX9_cell_99
          · replace h := if_eln h h_5
            refine lv_tableOut (tgt := 100) hx hb dX9_cell_12 (by have z0 := lv_neT (a := 0) h_2 rfl; have z1 := lv_neT (a := 1) h_3 rfl; have z2 := lv_neT (a := 2) h_4 rfl; have z3 := lv_neT (a := 3) h_5 rfl; omega) (by decide) ?_
            refine lv_bipush (v := (-2)) hx hb dX9_cell_100 (by decide) ?_
            exact r_iret X hP hS (pr0 h) rfl dX9_cell_102
  · replace h := if_elp h hc
    refine lv_bipush (v := (-2)) hx hb dX9_cell_8 (by decide) ?_
    exact r_iret X hP hS (pr0 h) rfl dX9_cell_10
abbrev rmX9_history : Room := { frames := 2, cells := 0, slots := 0, locals := 46 }
def f_X9_history (M : Mem) (a1 : Int32) (a2 : Int32) : Option (Int32) :=
  Option.bind (f_X9_isCell (Int32.toInt64 a1)) fun r_1 => if (bI r_1) = 0 then (some (-2)) else (Option.bind (f_X9_in (Int32.toInt64 a2) 0 11) fun r_2 => if (bI r_2) = 0 then (some (-1)) else (gd (inR a1 40) <| if (gI M 126 a1.toNatClampNeg) ≤ a2 then (some (-1)) else (gd (inR ((12 * a1) + a2) 480) <| some (gI M 127 ((12 * a1) + a2).toNatClampNeg))))
set_option maxRecDepth 100000 in
set_option maxHeartbeats 4000000 in
theorem c_X9_history {l : Launch} {G : va_G} {cy : Nat → ClassId} {B nT : Nat} {M : Mem} {a1 : Int32} {a2 : Int32} {out : Int32} (h : f_X9_history M a1 a2 = some out) : Met l yX9_history (wsU yX9_history cX9_history 3 (some .int)) rmX9_history (va_Pc [.ref (B + 119), .int a1, .int a2] (PU G B cy nT M)) (Qi G B cy nT out M) 0 0 (FB B) := by
  refine r_met (by decide +kernel) RX9 rfl (Nat.le_of_ble_eq_true rfl) ?_
  intro p e s m args below meth c ls X hP hl
  have hl : lv_has ls 3 [(0, .ref (B + 119)), (1, .int a1), (2, .int a2)] := hl
  have hS : va_S (FB B) s.heap s.heap [] := va_S.rf
  obtain ⟨hx, hb, hr, hml, hown, hts, hKn, hlk⟩ := id X
  unfold f_X9_history at h
  refine lv_iload_n hx hb dX9_history_0 rfl (lv_at hl 1 rfl) ?_
  refine lv_i2l (v := (Int32.toInt64 a1)) hx hb dX9_history_1 rfl ?_
  obtain ⟨r_1, h_1, h⟩ := bd_el h
  refine cl_i (rn_S X hP (c_X9_isCell h_1) k_642 k_643 k_9 k_644 hd_X9_isCell (n := 1) ⟨⟨rfl, rfl⟩, Nat.le_of_ble_eq_true rfl, Nat.le_of_ble_eq_true rfl⟩ (As := [.long (Int32.toInt64 a1)]) (rest := []) rfl hl.1 rfl (Nat.le_of_ble_eq_true rfl) dX9_history_2 ⟨Nat.zero_le _, Nat.zero_le _⟩) hS (fun H locs hP hS => ?_)
  refine lv_if_ne (tgt := 11) hx hb dX9_history_5 (by decide) (fun hc => ?_) (fun hc => ?_)
  · replace h := if_eln h hc
    refine lv_iload_n hx hb dX9_history_11 rfl (lv_at hl 2 rfl) ?_
    refine lv_i2l (v := (Int32.toInt64 a2)) hx hb dX9_history_12 rfl ?_
    refine lv_lconst (v := 0) hx hb dX9_history_13 rfl ?_
    refine lv_ldc2 (v := 11) hx hb hown (hts _ k_678) dX9_history_14 ?_
    obtain ⟨r_2, h_2, h⟩ := bd_el h
    refine cl_i (rn_S X hP (c_X9_in h_2) k_646 k_647 k_9 k_648 hd_X9_in (n := 3) ⟨⟨rfl, rfl⟩, Nat.le_of_ble_eq_true rfl, Nat.le_of_ble_eq_true rfl⟩ (As := [.long (Int32.toInt64 a2), .long 0, .long 11]) (rest := []) rfl hl.1 rfl (Nat.le_of_ble_eq_true rfl) dX9_history_17 ⟨Nat.zero_le _, Nat.zero_le _⟩) hS (fun H locs hP hS => ?_)
    refine lv_if_eq (tgt := 47) hx hb dX9_history_20 (by decide) (fun hc => ?_) (fun hc => ?_)
    · replace h := if_elp h hc
      refine lv_iconst (v := (-1)) hx hb dX9_history_47 (by decide) ?_
      exact r_iret X hP hS (pr0 h) rfl dX9_history_48
    · replace h := if_eln h hc
      refine lv_iload_n hx hb dX9_history_23 rfl (lv_at hl 2 rfl) ?_
      refine lv_aload_n hx hb dX9_history_24 rfl (lv_at hl 0 rfl) ?_
      refine gf_X9_29 X hP dX9_history_25 ?_
      refine lv_iload_n hx hb dX9_history_28 rfl (lv_at hl 1 rfl) ?_
      obtain ⟨g_1, h⟩ := gd_el h
      refine r_iald X hP kq_126 g_1 dX9_history_29 ?_
      refine lv_icmp_ge (tgt := 47) hx hb dX9_history_30 (by decide) (fun hc => ?_) (fun hc => ?_)
      · replace h := if_elp h hc
        refine lv_iconst (v := (-1)) hx hb dX9_history_47 (by decide) ?_
        exact r_iret X hP hS (pr0 h) rfl dX9_history_48
      · replace h := if_eln h hc
        refine lv_aload_n hx hb dX9_history_33 rfl (lv_at hl 0 rfl) ?_
        refine gf_X9_32 X hP dX9_history_34 ?_
        refine lv_bipush (v := 12) hx hb dX9_history_37 (by decide) ?_
        refine lv_iload_n hx hb dX9_history_39 rfl (lv_at hl 1 rfl) ?_
        refine lv_imul hx hb dX9_history_40 ?_
        refine lv_iload_n hx hb dX9_history_41 rfl (lv_at hl 2 rfl) ?_
        refine lv_iadd hx hb dX9_history_42 ?_
        obtain ⟨g_2, h⟩ := gd_el h
        refine r_iald X hP kq_127 g_2 dX9_history_43 ?_
        refine lv_goto (tgt := 48) hx hb dX9_history_44 (by decide) ?_
        exact r_iret X hP hS (pr0 h) rfl dX9_history_48
  · replace h := if_elp h hc
    refine lv_bipush (v := (-2)) hx hb dX9_history_8 (by decide) ?_
    exact r_iret X hP hS (pr0 h) rfl dX9_history_10
abbrev rmX9_stock : Room := { frames := 1, cells := 0, slots := 0, locals := 25 }
def f_X9_stock_86 (M : Mem) (K31 : Int32 → Int32 → Int64 → Int32 → Option (Int64)) (v1 : Int32) (v2 : Int32) (v5 : Int32) (s0 : Int64) (s1 : Int64) : Option (Int64) :=
  lt (s1 + s0) fun v_1 => lt (v5 + 1) fun v_2 => K31 v1 v2 v_1 v_2
set_option maxRecDepth 100000 in
set_option maxHeartbeats 4000000 in
theorem w_X9_stock_86 (X : Cx p s m args meth c cX9_stock RX9 6 (some .long) G cy) {M : Mem} {out : Int64} {K31 : Int32 → Int32 → Int64 → Int32 → Option (Int64)} (hK31 : ∀ (H : Heap) (locs : List Loc) (ls : Array Slot) (v1 : Int32) (v2 : Int32) (v3 : Int64) (v5 : Int32), Pic G B cy nT M H → va_S (FB B) s.heap H locs → lv_has ls 6 [(0, .ref (B + 119)), (1, .int v1), (2, .int v2), (3, .long v3), (5, .int v5)] → K31 v1 v2 v3 v5 = some out → W p l e rmX9_stock s m args below meth c H locs 0 0 (MQ below (Ql G B cy nT out M) args s 0 0 (FB B)) (F0 m 31 ls [])) {v1 : Int32} {v2 : Int32} {v5 : Int32} {s0 : Int64} {s1 : Int64} (hP : Pic G B cy nT M H) (hS : va_S (FB B) s.heap H locs) (hl : lv_has ls 6 [(0, .ref (B + 119)), (1, .int v1), (2, .int v2), (5, .int v5)]) (h : f_X9_stock_86 M K31 v1 v2 v5 s0 s1 = some out) : W p l e rmX9_stock s m args below meth c H locs 0 0 (MQ below (Ql G B cy nT out M) args s 0 0 (FB B)) (F0 m 86 ls [.long s0, .long s1]) := by
  obtain ⟨hx, hb, hr, hml, hown, hts, hKn, hlk⟩ := id X
  unfold f_X9_stock_86 at h
  refine lv_ladd hx hb dX9_stock_86 ?_
  obtain ⟨v_1, e_1, h⟩ := lt_el h
  refine r_topl e_1 ?_
  refine lv_lstore_n (lv' := [(3, .long v_1), (0, .ref (B + 119)), (1, .int v1), (2, .int v2), (5, .int v5)]) hx hb dX9_stock_87 rfl hl (by decide) rfl (fun ls hl => ?_)
  obtain ⟨v_2, e_2, h⟩ := lt_el h
  refine lv_iinc (v := v_2) (lv' := [(5, .int v_2), (3, .long v_1), (0, .ref (B + 119)), (1, .int v1), (2, .int v2)]) hx hb dX9_stock_88 hl (k := 4) rfl (by rw [e_2]; rfl) (by decide) rfl (fun ls hl => ?_)
  refine lv_goto (tgt := 31) hx hb dX9_stock_91 (by decide) ?_
  exact hK31 _ _ _ _ _ _ _ hP hS (lv_sub hl [2, 3, 4, 1, 0] rfl) h
def f_X9_stock_85 (M : Mem) (K31 : Int32 → Int32 → Int64 → Int32 → Option (Int64)) (v1 : Int32) (v2 : Int32) (v5 : Int32) (s0 : Int64) : Option (Int64) :=
  f_X9_stock_86 M K31 v1 v2 v5 0 s0
set_option maxRecDepth 100000 in
set_option maxHeartbeats 4000000 in
theorem w_X9_stock_85 (X : Cx p s m args meth c cX9_stock RX9 6 (some .long) G cy) {M : Mem} {out : Int64} {K31 : Int32 → Int32 → Int64 → Int32 → Option (Int64)} (hK31 : ∀ (H : Heap) (locs : List Loc) (ls : Array Slot) (v1 : Int32) (v2 : Int32) (v3 : Int64) (v5 : Int32), Pic G B cy nT M H → va_S (FB B) s.heap H locs → lv_has ls 6 [(0, .ref (B + 119)), (1, .int v1), (2, .int v2), (3, .long v3), (5, .int v5)] → K31 v1 v2 v3 v5 = some out → W p l e rmX9_stock s m args below meth c H locs 0 0 (MQ below (Ql G B cy nT out M) args s 0 0 (FB B)) (F0 m 31 ls [])) {v1 : Int32} {v2 : Int32} {v5 : Int32} {s0 : Int64} (hP : Pic G B cy nT M H) (hS : va_S (FB B) s.heap H locs) (hl : lv_has ls 6 [(0, .ref (B + 119)), (1, .int v1), (2, .int v2), (5, .int v5)]) (h : f_X9_stock_85 M K31 v1 v2 v5 s0 = some out) : W p l e rmX9_stock s m args below meth c H locs 0 0 (MQ below (Ql G B cy nT out M) args s 0 0 (FB B)) (F0 m 85 ls [.long s0]) := by
  obtain ⟨hx, hb, hr, hml, hown, hts, hKn, hlk⟩ := id X
  unfold f_X9_stock_85 at h
  refine lv_lconst (v := 0) hx hb dX9_stock_85 rfl ?_
  exact w_X9_stock_86 X hK31 hP hS (lv_sub hl [0, 1, 2, 3] rfl) h
def f_X9_stock_71 (M : Mem) (K31 : Int32 → Int32 → Int64 → Int32 → Option (Int64)) (v1 : Int32) (v2 : Int32) (v5 : Int32) (s0 : Int32) (s1 : Int64) : Option (Int64) :=
  if s0 = v2 then (gd (inR v5 40) <| f_X9_stock_86 M K31 v1 v2 v5 (gL M 121 v5.toNatClampNeg) s1) else (f_X9_stock_85 M K31 v1 v2 v5 s1)
set_option maxRecDepth 100000 in
set_option maxHeartbeats 4000000 in
theorem w_X9_stock_71 (X : Cx p s m args meth c cX9_stock RX9 6 (some .long) G cy) {M : Mem} {out : Int64} {K31 : Int32 → Int32 → Int64 → Int32 → Option (Int64)} (hK31 : ∀ (H : Heap) (locs : List Loc) (ls : Array Slot) (v1 : Int32) (v2 : Int32) (v3 : Int64) (v5 : Int32), Pic G B cy nT M H → va_S (FB B) s.heap H locs → lv_has ls 6 [(0, .ref (B + 119)), (1, .int v1), (2, .int v2), (3, .long v3), (5, .int v5)] → K31 v1 v2 v3 v5 = some out → W p l e rmX9_stock s m args below meth c H locs 0 0 (MQ below (Ql G B cy nT out M) args s 0 0 (FB B)) (F0 m 31 ls [])) {v1 : Int32} {v2 : Int32} {v5 : Int32} {s0 : Int32} {s1 : Int64} (hP : Pic G B cy nT M H) (hS : va_S (FB B) s.heap H locs) (hl : lv_has ls 6 [(0, .ref (B + 119)), (1, .int v1), (2, .int v2), (5, .int v5)]) (h : f_X9_stock_71 M K31 v1 v2 v5 s0 s1 = some out) : W p l e rmX9_stock s m args below meth c H locs 0 0 (MQ below (Ql G B cy nT out M) args s 0 0 (FB B)) (F0 m 71 ls [.int s0, .long s1]) := by
  obtain ⟨hx, hb, hr, hml, hown, hts, hKn, hlk⟩ := id X
  unfold f_X9_stock_71 at h
  refine lv_iload_n hx hb dX9_stock_71 rfl (lv_at hl 2 rfl) ?_
  refine lv_icmp_ne (tgt := 85) hx hb dX9_stock_72 (by decide) (fun hc => ?_) (fun hc => ?_)
  · replace h := if_eln h hc
    exact w_X9_stock_85 X hK31 hP hS (lv_sub hl [0, 1, 2, 3] rfl) h
  · replace h := if_elp h hc
    refine lv_aload_n hx hb dX9_stock_75 rfl (lv_at hl 0 rfl) ?_
    refine gf_X9_13 X hP dX9_stock_76 ?_
    refine lv_iload hx hb dX9_stock_79 (lv_at hl 3 rfl) ?_
    obtain ⟨g_1, h⟩ := gd_el h
    refine r_lald X hP kq_121 g_1 dX9_stock_81 ?_
    refine lv_goto (tgt := 86) hx hb dX9_stock_82 (by decide) ?_
    exact w_X9_stock_86 X hK31 hP hS (lv_sub hl [0, 1, 2, 3] rfl) h
def f_X9_stock_31 (M : Mem) : Nat → Int32 → Int32 → Int64 → Int32 → Option (Int64)
  | 0, _, _, _, _ => none
  | n + 1, v1, v2, v3, v5 => if 40 ≤ v5 then (some v3) else (gd (inR v5 40) <| if (gI M 120 v5.toNatClampNeg) = 2 then (if v1 = 0 then (gd (inR v5 40) <| f_X9_stock_71 M (f_X9_stock_31 M n) v1 v2 v5 (gI M 122 v5.toNatClampNeg) v3) else (gd (inR v5 40) <| f_X9_stock_71 M (f_X9_stock_31 M n) v1 v2 v5 (gI M 123 v5.toNatClampNeg) v3)) else (f_X9_stock_85 M (f_X9_stock_31 M n) v1 v2 v5 v3))
set_option maxRecDepth 100000 in
set_option maxHeartbeats 4000000 in
theorem w_X9_stock_31 (X : Cx p s m args meth c cX9_stock RX9 6 (some .long) G cy) {M : Mem} {out : Int64} : ∀ n : Nat, ∀ (H : Heap) (locs : List Loc) (ls : Array Slot) (v1 : Int32) (v2 : Int32) (v3 : Int64) (v5 : Int32), Pic G B cy nT M H → va_S (FB B) s.heap H locs → lv_has ls 6 [(0, .ref (B + 119)), (1, .int v1), (2, .int v2), (3, .long v3), (5, .int v5)] → f_X9_stock_31 M n v1 v2 v3 v5 = some out → W p l e rmX9_stock s m args below meth c H locs 0 0 (MQ below (Ql G B cy nT out M) args s 0 0 (FB B)) (F0 m 31 ls []) := by
  obtain ⟨hx, hb, hr, hml, hown, hts, hKn, hlk⟩ := id X
  intro n
  induction n with
  | zero =>
    intro H locs ls v1 v2 v3 v5 hP hS hl h
    cases h
  | succ n ih =>
    intro H locs ls v1 v2 v3 v5 hP hS hl h
    rw [f_X9_stock_31] at h
    refine lv_iload hx hb dX9_stock_31 (lv_at hl 4 rfl) ?_
    refine lv_bipush (v := 40) hx hb dX9_stock_33 (by decide) ?_
    refine lv_icmp_ge (tgt := 94) hx hb dX9_stock_35 (by decide) (fun hc => ?_) (fun hc => ?_)
    · replace h := if_elp h hc
      refine lv_lload_n hx hb dX9_stock_94 rfl (lv_at hl 3 rfl) ?_
      exact r_lret X hP hS (pr0 h) rfl dX9_stock_95
    · replace h := if_eln h hc
      refine lv_lload_n hx hb dX9_stock_38 rfl (lv_at hl 3 rfl) ?_
      refine lv_aload_n hx hb dX9_stock_39 rfl (lv_at hl 0 rfl) ?_
      refine gf_X9_7 X hP dX9_stock_40 ?_
      refine lv_iload hx hb dX9_stock_43 (lv_at hl 4 rfl) ?_
      obtain ⟨g_1, h⟩ := gd_el h
      refine r_iald X hP kq_120 g_1 dX9_stock_45 ?_
      refine lv_iconst (v := 2) hx hb dX9_stock_46 (by decide) ?_
      refine lv_icmp_ne (tgt := 85) hx hb dX9_stock_47 (by decide) (fun hc => ?_) (fun hc => ?_)
      · replace h := if_eln h hc
        exact w_X9_stock_85 X ih hP hS (lv_sub hl [0, 1, 2, 4] rfl) h
      · replace h := if_elp h hc
        refine lv_iload_n hx hb dX9_stock_50 rfl (lv_at hl 1 rfl) ?_
        refine lv_if_ne (tgt := 64) hx hb dX9_stock_51 (by decide) (fun hc => ?_) (fun hc => ?_)
        · replace h := if_eln h hc
          refine lv_aload_n hx hb dX9_stock_64 rfl (lv_at hl 0 rfl) ?_
          refine gf_X9_20 X hP dX9_stock_65 ?_
          refine lv_iload hx hb dX9_stock_68 (lv_at hl 4 rfl) ?_
          obtain ⟨g_2, h⟩ := gd_el h
          refine r_iald X hP kq_123 g_2 dX9_stock_70 ?_
          exact w_X9_stock_71 X ih hP hS (lv_sub hl [0, 1, 2, 4] rfl) h
        · replace h := if_elp h hc
          refine lv_aload_n hx hb dX9_stock_54 rfl (lv_at hl 0 rfl) ?_
          refine gf_X9_17 X hP dX9_stock_55 ?_
          refine lv_iload hx hb dX9_stock_58 (lv_at hl 4 rfl) ?_
          obtain ⟨g_3, h⟩ := gd_el h
          refine r_iald X hP kq_122 g_3 dX9_stock_60 ?_
          refine lv_goto (tgt := 71) hx hb dX9_stock_61 (by decide) ?_
          exact w_X9_stock_71 X ih hP hS (lv_sub hl [0, 1, 2, 4] rfl) h
def f_X9_stock (M : Mem) (a1 : Int32) (a2 : Int32) : Option (Int64) :=
  Option.bind (f_X9_in (Int32.toInt64 a1) 0 1) fun r_1 => if (bI r_1) = 0 then (some (-2)) else (Option.bind (f_X9_in (Int32.toInt64 a2) 0 7) fun r_2 => if (bI r_2) = 0 then (some (-2)) else (f_X9_stock_31 M FU a1 a2 0 0))
set_option maxRecDepth 100000 in
set_option maxHeartbeats 4000000 in
theorem c_X9_stock {l : Launch} {G : va_G} {cy : Nat → ClassId} {B nT : Nat} {M : Mem} {a1 : Int32} {a2 : Int32} {out : Int64} (h : f_X9_stock M a1 a2 = some out) : Met l yX9_stock (wsU yX9_stock cX9_stock 6 (some .long)) rmX9_stock (va_Pc [.ref (B + 119), .int a1, .int a2] (PU G B cy nT M)) (Ql G B cy nT out M) 0 0 (FB B) := by
  refine r_met (by decide +kernel) RX9 rfl (Nat.le_of_ble_eq_true rfl) ?_
  intro p e s m args below meth c ls X hP hl
  have hl : lv_has ls 6 [(0, .ref (B + 119)), (1, .int a1), (2, .int a2)] := hl
  have hS : va_S (FB B) s.heap s.heap [] := va_S.rf
  obtain ⟨hx, hb, hr, hml, hown, hts, hKn, hlk⟩ := id X
  unfold f_X9_stock at h
  refine lv_iload_n hx hb dX9_stock_0 rfl (lv_at hl 1 rfl) ?_
  refine lv_i2l (v := (Int32.toInt64 a1)) hx hb dX9_stock_1 rfl ?_
  refine lv_lconst (v := 0) hx hb dX9_stock_2 rfl ?_
  refine lv_lconst (v := 1) hx hb dX9_stock_3 rfl ?_
  obtain ⟨r_1, h_1, h⟩ := bd_el h
  refine cl_i (rn_S X hP (c_X9_in h_1) k_646 k_647 k_9 k_648 hd_X9_in (n := 3) ⟨⟨rfl, rfl⟩, Nat.le_of_ble_eq_true rfl, Nat.le_of_ble_eq_true rfl⟩ (As := [.long (Int32.toInt64 a1), .long 0, .long 1]) (rest := []) rfl hl.1 rfl (Nat.le_of_ble_eq_true rfl) dX9_stock_4 ⟨Nat.zero_le _, Nat.zero_le _⟩) hS (fun H locs hP hS => ?_)
  refine lv_if_eq (tgt := 22) hx hb dX9_stock_7 (by decide) (fun hc => ?_) (fun hc => ?_)
  · replace h := if_elp h hc
    refine lv_ldc2 (v := (-2)) hx hb hown (hts _ k_683) dX9_stock_22 ?_
    exact r_lret X hP hS (pr0 h) rfl dX9_stock_25
  · replace h := if_eln h hc
    refine lv_iload_n hx hb dX9_stock_10 rfl (lv_at hl 2 rfl) ?_
    refine lv_i2l (v := (Int32.toInt64 a2)) hx hb dX9_stock_11 rfl ?_
    refine lv_lconst (v := 0) hx hb dX9_stock_12 rfl ?_
    refine lv_ldc2 (v := 7) hx hb hown (hts _ k_656) dX9_stock_13 ?_
    obtain ⟨r_2, h_2, h⟩ := bd_el h
    refine cl_i (rn_S X hP (c_X9_in h_2) k_646 k_647 k_9 k_648 hd_X9_in (n := 3) ⟨⟨rfl, rfl⟩, Nat.le_of_ble_eq_true rfl, Nat.le_of_ble_eq_true rfl⟩ (As := [.long (Int32.toInt64 a2), .long 0, .long 7]) (rest := []) rfl hl.1 rfl (Nat.le_of_ble_eq_true rfl) dX9_stock_16 ⟨Nat.zero_le _, Nat.zero_le _⟩) hS (fun H locs hP hS => ?_)
    refine lv_if_ne (tgt := 26) hx hb dX9_stock_19 (by decide) (fun hc => ?_) (fun hc => ?_)
    · replace h := if_eln h hc
      refine lv_lconst (v := 0) hx hb dX9_stock_26 rfl ?_
      refine lv_lstore_n (lv' := [(3, .long 0), (0, .ref (B + 119)), (1, .int a1), (2, .int a2)]) hx hb dX9_stock_27 rfl hl (by decide) rfl (fun ls hl => ?_)
      refine lv_iconst (v := 0) hx hb dX9_stock_28 (by decide) ?_
      refine lv_istore (lv' := [(5, .int 0), (3, .long 0), (0, .ref (B + 119)), (1, .int a1), (2, .int a2)]) hx hb dX9_stock_29 hl (by decide) rfl (fun ls hl => ?_)
      exact w_X9_stock_31 X FU _ _ _ _ _ _ _ hP hS (lv_sub hl [2, 3, 4, 1, 0] rfl) h
    · replace h := if_elp h hc
      refine lv_ldc2 (v := (-2)) hx hb hown (hts _ k_683) dX9_stock_22 ?_
      exact r_lret X hP hS (pr0 h) rfl dX9_stock_25
abbrev rmX9_isStep : Room := { frames := 2, cells := 0, slots := 0, locals := 46 }
def f_X9_isStep_172 : Option (Bool) :=
  some true
set_option maxRecDepth 100000 in
set_option maxHeartbeats 4000000 in
theorem w_X9_isStep_172 (X : Cx p s m args meth c cX9_isStep RX9 3 (some .boolean) G cy) {M : Mem} {out : Bool} (hP : Pic G B cy nT M H) (hS : va_S (FB B) s.heap H locs) (hl : lv_has ls 3 []) (h : f_X9_isStep_172 = some out) : W p l e rmX9_isStep s m args below meth c H locs 0 0 (MQ below (Qi G B cy nT (bI out) M) args s 0 0 (FB B)) (F0 m 172 ls []) := by
  obtain ⟨hx, hb, hr, hml, hown, hts, hKn, hlk⟩ := id X
  unfold f_X9_isStep_172 at h
  refine lv_iconst (v := 1) hx hb dX9_isStep_172 (by decide) ?_
  refine lv_goto (tgt := 177) hx hb dX9_isStep_173 (by decide) ?_
  exact r_zret X hP hS rfl (prz h) rfl dX9_isStep_177
def f_X9_isStep (a0 : Int32) (a1 : Int32) (a2 : Int32) : Option (Bool) :=
  if a0 = 1 then (Option.bind (f_X9_isCell (Int32.toInt64 a1)) fun r_1 => some r_1) else if a0 = 2 then (Option.bind (f_X9_isCell (Int32.toInt64 a1)) fun r_2 => some r_2) else if a0 = 3 then (Option.bind (f_X9_isCell (Int32.toInt64 a1)) fun r_3 => some r_3) else if a0 = 4 then (Option.bind (f_X9_in (Int32.toInt64 a0) 0 15) fun r_4 => some r_4) else if a0 = 5 then (Option.bind (f_X9_in (Int32.toInt64 a0) 0 15) fun r_5 => some r_5) else if a0 = 6 then (Option.bind (f_X9_isCell (Int32.toInt64 a1)) fun r_6 => some r_6) else if a0 = 7 then (Option.bind (f_X9_in (Int32.toInt64 a0) 0 15) fun r_7 => some r_7) else if a0 = 8 then (Option.bind (f_X9_isCell (Int32.toInt64 a1)) fun r_8 => some r_8) else if a0 = 9 then (Option.bind (f_X9_isCell (Int32.toInt64 a1)) fun r_9 => some r_9) else if a0 = 10 then (Option.bind (f_X9_isCell (Int32.toInt64 a1)) fun r_10 => if (bI r_10) = 0 then (some false) else (Option.bind (f_X9_isCell (Int32.toInt64 a2)) fun r_11 => if (bI r_11) = 0 then (some false) else (some true))) else if a0 = 11 then (Option.bind (f_X9_isCell (Int32.toInt64 a1)) fun r_12 => if (bI r_12) = 0 then (some false) else (Option.bind (f_X9_isCell (Int32.toInt64 a2)) fun r_13 => if (bI r_13) = 0 then (some false) else (some true))) else if a0 = 12 then (Option.bind (f_X9_in (Int32.toInt64 a0) 0 15) fun r_14 => some r_14) else if a0 = 13 then (Option.bind (f_X9_in (Int32.toInt64 a1) 0 24) fun r_15 => some r_15) else if a0 = 14 then (Option.bind (f_X9_in (Int32.toInt64 a0) 0 15) fun r_16 => some r_16) else if a0 = 15 then (Option.bind (f_X9_in (Int32.toInt64 a0) 0 15) fun r_17 => some r_17) else if a0 = 16 then (Option.bind (f_X9_isTrade a1) fun r_18 => some r_18) else if a0 = 17 then (Option.bind (f_X9_isTrade a1) fun r_19 => some r_19) else if a0 = 18 then (Option.bind (f_X9_isTrade a1) fun r_20 => if (bI r_20) = 0 then (some false) else (Option.bind (f_X9_isTrade a2) fun r_21 => if (bI r_21) = 0 then (some false) else (some true))) else if a0 = 19 then (if a1 = 0 then (f_X9_isStep_172) else (if a1 = 1 then (Option.bind (f_X9_isCell (Int32.toInt64 a2)) fun r_22 => if (bI r_22) = 0 then (some false) else (f_X9_isStep_172)) else (some false))) else Option.bind (f_X9_in (Int32.toInt64 a0) 0 15) fun r_23 => some r_23
set_option maxRecDepth 100000 in
set_option maxHeartbeats 4000000 in
theorem c_X9_isStep {l : Launch} {G : va_G} {cy : Nat → ClassId} {B nT : Nat} {M : Mem} {a0 : Int32} {a1 : Int32} {a2 : Int32} {out : Bool} (h : f_X9_isStep a0 a1 a2 = some out) : Met l yX9_isStep (wsU yX9_isStep cX9_isStep 3 (some .boolean)) rmX9_isStep (va_Pc [.int a0, .int a1, .int a2] (PU G B cy nT M)) (Qi G B cy nT (bI out) M) 0 0 (FB B) := by
  refine r_met (by decide +kernel) RX9 rfl (Nat.le_of_ble_eq_true rfl) ?_
  intro p e s m args below meth c ls X hP hl
  have hl : lv_has ls 3 [(0, .int a0), (1, .int a1), (2, .int a2)] := hl
  have hS : va_S (FB B) s.heap s.heap [] := va_S.rf
  obtain ⟨hx, hb, hr, hml, hown, hts, hKn, hlk⟩ := id X
  unfold f_X9_isStep at h
  refine lv_iload_n hx hb dX9_isStep_0 rfl (lv_at hl 0 rfl) ?_
  by_cases h_1 : a0 = 1
  · replace h := if_elp h h_1
    refine lv_tableIn (off := 91) (tgt := 92) hx hb dX9_isStep_1 (by rw [h_1]; decide) (by rw [h_1]; decide) (by rw [h_1]; rfl) (by decide) ?_
    refine lv_iload_n hx hb dX9_isStep_92 rfl (lv_at hl 1 rfl) ?_
    refine lv_i2l (v := (Int32.toInt64 a1)) hx hb dX9_isStep_93 rfl ?_
    obtain ⟨r_1, h_2, h⟩ := bd_el h
    refine cl_i (rn_S X hP (c_X9_isCell h_2) k_642 k_643 k_9 k_644 hd_X9_isCell (n := 1) ⟨⟨rfl, rfl⟩, Nat.le_of_ble_eq_true rfl, Nat.le_of_ble_eq_true rfl⟩ (As := [.long (Int32.toInt64 a1)]) (rest := []) rfl hl.1 rfl (Nat.le_of_ble_eq_true rfl) dX9_isStep_94 ⟨Nat.zero_le _, Nat.zero_le _⟩) hS (fun H locs hP hS => ?_)
    exact r_zret X hP hS (nar_bI _) (prz h) rfl dX9_isStep_97
  · replace h := if_eln h h_1
    by_cases h_3 : a0 = 2
    · replace h := if_elp h h_3
      refine lv_tableIn (off := 91) (tgt := 92) hx hb dX9_isStep_1 (by rw [h_3]; decide) (by rw [h_3]; decide) (by rw [h_3]; rfl) (by decide) ?_
      refine lv_iload_n hx hb dX9_isStep_92 rfl (lv_at hl 1 rfl) ?_
      refine lv_i2l (v := (Int32.toInt64 a1)) hx hb dX9_isStep_93 rfl ?_
      obtain ⟨r_2, h_4, h⟩ := bd_el h
      refine cl_i (rn_S X hP (c_X9_isCell h_4) k_642 k_643 k_9 k_644 hd_X9_isCell (n := 1) ⟨⟨rfl, rfl⟩, Nat.le_of_ble_eq_true rfl, Nat.le_of_ble_eq_true rfl⟩ (As := [.long (Int32.toInt64 a1)]) (rest := []) rfl hl.1 rfl (Nat.le_of_ble_eq_true rfl) dX9_isStep_94 ⟨Nat.zero_le _, Nat.zero_le _⟩) hS (fun H locs hP hS => ?_)
      exact r_zret X hP hS (nar_bI _) (prz h) rfl dX9_isStep_97
    · replace h := if_eln h h_3
      by_cases h_5 : a0 = 3
      · replace h := if_elp h h_5
        refine lv_tableIn (off := 91) (tgt := 92) hx hb dX9_isStep_1 (by rw [h_5]; decide) (by rw [h_5]; decide) (by rw [h_5]; rfl) (by decide) ?_
        refine lv_iload_n hx hb dX9_isStep_92 rfl (lv_at hl 1 rfl) ?_
        refine lv_i2l (v := (Int32.toInt64 a1)) hx hb dX9_isStep_93 rfl ?_
        obtain ⟨r_3, h_6, h⟩ := bd_el h
        refine cl_i (rn_S X hP (c_X9_isCell h_6) k_642 k_643 k_9 k_644 hd_X9_isCell (n := 1) ⟨⟨rfl, rfl⟩, Nat.le_of_ble_eq_true rfl, Nat.le_of_ble_eq_true rfl⟩ (As := [.long (Int32.toInt64 a1)]) (rest := []) rfl hl.1 rfl (Nat.le_of_ble_eq_true rfl) dX9_isStep_94 ⟨Nat.zero_le _, Nat.zero_le _⟩) hS (fun H locs hP hS => ?_)
        exact r_zret X hP hS (nar_bI _) (prz h) rfl dX9_isStep_97
      · replace h := if_eln h h_5
        by_cases h_7 : a0 = 4
        · replace h := if_elp h h_7
          refine lv_tableIn (off := 177) (tgt := 178) hx hb dX9_isStep_1 (by rw [h_7]; decide) (by rw [h_7]; decide) (by rw [h_7]; rfl) (by decide) ?_
          refine lv_iload_n hx hb dX9_isStep_178 rfl (lv_at hl 0 rfl) ?_
          refine lv_i2l (v := (Int32.toInt64 a0)) hx hb dX9_isStep_179 rfl ?_
          refine lv_lconst (v := 0) hx hb dX9_isStep_180 rfl ?_
          refine lv_ldc2 (v := 15) hx hb hown (hts _ k_691) dX9_isStep_181 ?_
          obtain ⟨r_4, h_8, h⟩ := bd_el h
          refine cl_i (rn_S X hP (c_X9_in h_8) k_646 k_647 k_9 k_648 hd_X9_in (n := 3) ⟨⟨rfl, rfl⟩, Nat.le_of_ble_eq_true rfl, Nat.le_of_ble_eq_true rfl⟩ (As := [.long (Int32.toInt64 a0), .long 0, .long 15]) (rest := []) rfl hl.1 rfl (Nat.le_of_ble_eq_true rfl) dX9_isStep_184 ⟨Nat.zero_le _, Nat.zero_le _⟩) hS (fun H locs hP hS => ?_)
          exact r_zret X hP hS (nar_bI _) (prz h) rfl dX9_isStep_187
        · replace h := if_eln h h_7
          by_cases h_9 : a0 = 5
          · replace h := if_elp h h_9
            refine lv_tableIn (off := 177) (tgt := 178) hx hb dX9_isStep_1 (by rw [h_9]; decide) (by rw [h_9]; decide) (by rw [h_9]; rfl) (by decide) ?_
            refine lv_iload_n hx hb dX9_isStep_178 rfl (lv_at hl 0 rfl) ?_
            refine lv_i2l (v := (Int32.toInt64 a0)) hx hb dX9_isStep_179 rfl ?_
            refine lv_lconst (v := 0) hx hb dX9_isStep_180 rfl ?_
            refine lv_ldc2 (v := 15) hx hb hown (hts _ k_691) dX9_isStep_181 ?_
            obtain ⟨r_5, h_10, h⟩ := bd_el h
            refine cl_i (rn_S X hP (c_X9_in h_10) k_646 k_647 k_9 k_648 hd_X9_in (n := 3) ⟨⟨rfl, rfl⟩, Nat.le_of_ble_eq_true rfl, Nat.le_of_ble_eq_true rfl⟩ (As := [.long (Int32.toInt64 a0), .long 0, .long 15]) (rest := []) rfl hl.1 rfl (Nat.le_of_ble_eq_true rfl) dX9_isStep_184 ⟨Nat.zero_le _, Nat.zero_le _⟩) hS (fun H locs hP hS => ?_)
            exact r_zret X hP hS (nar_bI _) (prz h) rfl dX9_isStep_187
          · replace h := if_eln h h_9
            by_cases h_11 : a0 = 6
            · replace h := if_elp h h_11
              refine lv_tableIn (off := 91) (tgt := 92) hx hb dX9_isStep_1 (by rw [h_11]; decide) (by rw [h_11]; decide) (by rw [h_11]; rfl) (by decide) ?_
              refine lv_iload_n hx hb dX9_isStep_92 rfl (lv_at hl 1 rfl) ?_
              refine lv_i2l (v := (Int32.toInt64 a1)) hx hb dX9_isStep_93 rfl ?_
              obtain ⟨r_6, h_12, h⟩ := bd_el h
              refine cl_i (rn_S X hP (c_X9_isCell h_12) k_642 k_643 k_9 k_644 hd_X9_isCell (n := 1) ⟨⟨rfl, rfl⟩, Nat.le_of_ble_eq_true rfl, Nat.le_of_ble_eq_true rfl⟩ (As := [.long (Int32.toInt64 a1)]) (rest := []) rfl hl.1 rfl (Nat.le_of_ble_eq_true rfl) dX9_isStep_94 ⟨Nat.zero_le _, Nat.zero_le _⟩) hS (fun H locs hP hS => ?_)
              exact r_zret X hP hS (nar_bI _) (prz h) rfl dX9_isStep_97
            · replace h := if_eln h h_11
              by_cases h_13 : a0 = 7
              · replace h := if_elp h h_13
                refine lv_tableIn (off := 177) (tgt := 178) hx hb dX9_isStep_1 (by rw [h_13]; decide) (by rw [h_13]; decide) (by rw [h_13]; rfl) (by decide) ?_
                refine lv_iload_n hx hb dX9_isStep_178 rfl (lv_at hl 0 rfl) ?_
                refine lv_i2l (v := (Int32.toInt64 a0)) hx hb dX9_isStep_179 rfl ?_
                refine lv_lconst (v := 0) hx hb dX9_isStep_180 rfl ?_
                refine lv_ldc2 (v := 15) hx hb hown (hts _ k_691) dX9_isStep_181 ?_
                obtain ⟨r_7, h_14, h⟩ := bd_el h
                refine cl_i (rn_S X hP (c_X9_in h_14) k_646 k_647 k_9 k_648 hd_X9_in (n := 3) ⟨⟨rfl, rfl⟩, Nat.le_of_ble_eq_true rfl, Nat.le_of_ble_eq_true rfl⟩ (As := [.long (Int32.toInt64 a0), .long 0, .long 15]) (rest := []) rfl hl.1 rfl (Nat.le_of_ble_eq_true rfl) dX9_isStep_184 ⟨Nat.zero_le _, Nat.zero_le _⟩) hS (fun H locs hP hS => ?_)
                exact r_zret X hP hS (nar_bI _) (prz h) rfl dX9_isStep_187
              · replace h := if_eln h h_13
                by_cases h_15 : a0 = 8
                · replace h := if_elp h h_15
                  refine lv_tableIn (off := 91) (tgt := 92) hx hb dX9_isStep_1 (by rw [h_15]; decide) (by rw [h_15]; decide) (by rw [h_15]; rfl) (by decide) ?_
                  refine lv_iload_n hx hb dX9_isStep_92 rfl (lv_at hl 1 rfl) ?_
                  refine lv_i2l (v := (Int32.toInt64 a1)) hx hb dX9_isStep_93 rfl ?_
                  obtain ⟨r_8, h_16, h⟩ := bd_el h
                  refine cl_i (rn_S X hP (c_X9_isCell h_16) k_642 k_643 k_9 k_644 hd_X9_isCell (n := 1) ⟨⟨rfl, rfl⟩, Nat.le_of_ble_eq_true rfl, Nat.le_of_ble_eq_true rfl⟩ (As := [.long (Int32.toInt64 a1)]) (rest := []) rfl hl.1 rfl (Nat.le_of_ble_eq_true rfl) dX9_isStep_94 ⟨Nat.zero_le _, Nat.zero_le _⟩) hS (fun H locs hP hS => ?_)
                  exact r_zret X hP hS (nar_bI _) (prz h) rfl dX9_isStep_97
                · replace h := if_eln h h_15
                  by_cases h_17 : a0 = 9
                  · replace h := if_elp h h_17
                    refine lv_tableIn (off := 91) (tgt := 92) hx hb dX9_isStep_1 (by rw [h_17]; decide) (by rw [h_17]; decide) (by rw [h_17]; rfl) (by decide) ?_
                    refine lv_iload_n hx hb dX9_isStep_92 rfl (lv_at hl 1 rfl) ?_
                    refine lv_i2l (v := (Int32.toInt64 a1)) hx hb dX9_isStep_93 rfl ?_
                    obtain ⟨r_9, h_18, h⟩ := bd_el h
                    refine cl_i (rn_S X hP (c_X9_isCell h_18) k_642 k_643 k_9 k_644 hd_X9_isCell (n := 1) ⟨⟨rfl, rfl⟩, Nat.le_of_ble_eq_true rfl, Nat.le_of_ble_eq_true rfl⟩ (As := [.long (Int32.toInt64 a1)]) (rest := []) rfl hl.1 rfl (Nat.le_of_ble_eq_true rfl) dX9_isStep_94 ⟨Nat.zero_le _, Nat.zero_le _⟩) hS (fun H locs hP hS => ?_)
                    exact r_zret X hP hS (nar_bI _) (prz h) rfl dX9_isStep_97
                  · replace h := if_eln h h_17
                    by_cases h_19 : a0 = 10
                    · replace h := if_elp h h_19
                      refine lv_tableIn (off := 97) (tgt := 98) hx hb dX9_isStep_1 (by rw [h_19]; decide) (by rw [h_19]; decide) (by rw [h_19]; rfl) (by decide) ?_
                      refine lv_iload_n hx hb dX9_isStep_98 rfl (lv_at hl 1 rfl) ?_
                      refine lv_i2l (v := (Int32.toInt64 a1)) hx hb dX9_isStep_99 rfl ?_
                      obtain ⟨r_10, h_20, h⟩ := bd_el h
                      refine cl_i (rn_S X hP (c_X9_isCell h_20) k_642 k_643 k_9 k_644 hd_X9_isCell (n := 1) ⟨⟨rfl, rfl⟩, Nat.le_of_ble_eq_true rfl, Nat.le_of_ble_eq_true rfl⟩ (As := [.long (Int32.toInt64 a1)]) (rest := []) rfl hl.1 rfl (Nat.le_of_ble_eq_true rfl) dX9_isStep_100 ⟨Nat.zero_le _, Nat.zero_le _⟩) hS (fun H locs hP hS => ?_)
                      refine lv_if_eq (tgt := 118) hx hb dX9_isStep_103 (by decide) (fun hc => ?_) (fun hc => ?_)
                      · replace h := if_elp h hc
                        refine lv_iconst (v := 0) hx hb dX9_isStep_118 (by decide) ?_
                        exact r_zret X hP hS rfl (prz h) rfl dX9_isStep_119
                      · replace h := if_eln h hc
                        refine lv_iload_n hx hb dX9_isStep_106 rfl (lv_at hl 2 rfl) ?_
                        refine lv_i2l (v := (Int32.toInt64 a2)) hx hb dX9_isStep_107 rfl ?_
                        obtain ⟨r_11, h_21, h⟩ := bd_el h
                        refine cl_i (rn_S X hP (c_X9_isCell h_21) k_642 k_643 k_9 k_644 hd_X9_isCell (n := 1) ⟨⟨rfl, rfl⟩, Nat.le_of_ble_eq_true rfl, Nat.le_of_ble_eq_true rfl⟩ (As := [.long (Int32.toInt64 a2)]) (rest := []) rfl hl.1 rfl (Nat.le_of_ble_eq_true rfl) dX9_isStep_108 ⟨Nat.zero_le _, Nat.zero_le _⟩) hS (fun H locs hP hS => ?_)
                        refine lv_if_eq (tgt := 118) hx hb dX9_isStep_111 (by decide) (fun hc => ?_) (fun hc => ?_)
                        · replace h := if_elp h hc
                          refine lv_iconst (v := 0) hx hb dX9_isStep_118 (by decide) ?_
                          exact r_zret X hP hS rfl (prz h) rfl dX9_isStep_119
                        · replace h := if_eln h hc
                          refine lv_iconst (v := 1) hx hb dX9_isStep_114 (by decide) ?_
                          refine lv_goto (tgt := 119) hx hb dX9_isStep_115 (by decide) ?_
                          exact r_zret X hP hS rfl (prz h) rfl dX9_isStep_119
                    · replace h := if_eln h h_19
                      by_cases h_22 : a0 = 11
                      · replace h := if_elp h h_22
                        refine lv_tableIn (off := 97) (tgt := 98) hx hb dX9_isStep_1 (by rw [h_22]; decide) (by rw [h_22]; decide) (by rw [h_22]; rfl) (by decide) ?_
                        refine lv_iload_n hx hb dX9_isStep_98 rfl (lv_at hl 1 rfl) ?_
                        refine lv_i2l (v := (Int32.toInt64 a1)) hx hb dX9_isStep_99 rfl ?_
                        obtain ⟨r_12, h_23, h⟩ := bd_el h
                        refine cl_i (rn_S X hP (c_X9_isCell h_23) k_642 k_643 k_9 k_644 hd_X9_isCell (n := 1) ⟨⟨rfl, rfl⟩, Nat.le_of_ble_eq_true rfl, Nat.le_of_ble_eq_true rfl⟩ (As := [.long (Int32.toInt64 a1)]) (rest := []) rfl hl.1 rfl (Nat.le_of_ble_eq_true rfl) dX9_isStep_100 ⟨Nat.zero_le _, Nat.zero_le _⟩) hS (fun H locs hP hS => ?_)
                        refine lv_if_eq (tgt := 118) hx hb dX9_isStep_103 (by decide) (fun hc => ?_) (fun hc => ?_)
                        · replace h := if_elp h hc
                          refine lv_iconst (v := 0) hx hb dX9_isStep_118 (by decide) ?_
                          exact r_zret X hP hS rfl (prz h) rfl dX9_isStep_119
                        · replace h := if_eln h hc
                          refine lv_iload_n hx hb dX9_isStep_106 rfl (lv_at hl 2 rfl) ?_
                          refine lv_i2l (v := (Int32.toInt64 a2)) hx hb dX9_isStep_107 rfl ?_
                          obtain ⟨r_13, h_24, h⟩ := bd_el h
                          refine cl_i (rn_S X hP (c_X9_isCell h_24) k_642 k_643 k_9 k_644 hd_X9_isCell (n := 1) ⟨⟨rfl, rfl⟩, Nat.le_of_ble_eq_true rfl, Nat.le_of_ble_eq_true rfl⟩ (As := [.long (Int32.toInt64 a2)]) (rest := []) rfl hl.1 rfl (Nat.le_of_ble_eq_true rfl) dX9_isStep_108 ⟨Nat.zero_le _, Nat.zero_le _⟩) hS (fun H locs hP hS => ?_)
                          refine lv_if_eq (tgt := 118) hx hb dX9_isStep_111 (by decide) (fun hc => ?_) (fun hc => ?_)
                          · replace h := if_elp h hc
                            refine lv_iconst (v := 0) hx hb dX9_isStep_118 (by decide) ?_
                            exact r_zret X hP hS rfl (prz h) rfl dX9_isStep_119
                          · replace h := if_eln h hc
                            refine lv_iconst (v := 1) hx hb dX9_isStep_114 (by decide) ?_
                            refine lv_goto (tgt := 119) hx hb dX9_isStep_115 (by decide) ?_
                            exact r_zret X hP hS rfl (prz h) rfl dX9_isStep_119
                      · replace h := if_eln h h_22
                        by_cases h_25 : a0 = 12
                        · replace h := if_elp h h_25
                          refine lv_tableIn (off := 177) (tgt := 178) hx hb dX9_isStep_1 (by rw [h_25]; decide) (by rw [h_25]; decide) (by rw [h_25]; rfl) (by decide) ?_
                          refine lv_iload_n hx hb dX9_isStep_178 rfl (lv_at hl 0 rfl) ?_
                          refine lv_i2l (v := (Int32.toInt64 a0)) hx hb dX9_isStep_179 rfl ?_
                          refine lv_lconst (v := 0) hx hb dX9_isStep_180 rfl ?_
                          refine lv_ldc2 (v := 15) hx hb hown (hts _ k_691) dX9_isStep_181 ?_
                          obtain ⟨r_14, h_26, h⟩ := bd_el h
                          refine cl_i (rn_S X hP (c_X9_in h_26) k_646 k_647 k_9 k_648 hd_X9_in (n := 3) ⟨⟨rfl, rfl⟩, Nat.le_of_ble_eq_true rfl, Nat.le_of_ble_eq_true rfl⟩ (As := [.long (Int32.toInt64 a0), .long 0, .long 15]) (rest := []) rfl hl.1 rfl (Nat.le_of_ble_eq_true rfl) dX9_isStep_184 ⟨Nat.zero_le _, Nat.zero_le _⟩) hS (fun H locs hP hS => ?_)
                          exact r_zret X hP hS (nar_bI _) (prz h) rfl dX9_isStep_187
                        · replace h := if_eln h h_25
                          by_cases h_27 : a0 = 13
                          · replace h := if_elp h h_27
                            refine lv_tableIn (off := 119) (tgt := 120) hx hb dX9_isStep_1 (by rw [h_27]; decide) (by rw [h_27]; decide) (by rw [h_27]; rfl) (by decide) ?_
                            refine lv_iload_n hx hb dX9_isStep_120 rfl (lv_at hl 1 rfl) ?_
                            refine lv_i2l (v := (Int32.toInt64 a1)) hx hb dX9_isStep_121 rfl ?_
                            refine lv_lconst (v := 0) hx hb dX9_isStep_122 rfl ?_
                            refine lv_ldc2 (v := 24) hx hb hown (hts _ k_695) dX9_isStep_123 ?_
                            obtain ⟨r_15, h_28, h⟩ := bd_el h
                            refine cl_i (rn_S X hP (c_X9_in h_28) k_646 k_647 k_9 k_648 hd_X9_in (n := 3) ⟨⟨rfl, rfl⟩, Nat.le_of_ble_eq_true rfl, Nat.le_of_ble_eq_true rfl⟩ (As := [.long (Int32.toInt64 a1), .long 0, .long 24]) (rest := []) rfl hl.1 rfl (Nat.le_of_ble_eq_true rfl) dX9_isStep_126 ⟨Nat.zero_le _, Nat.zero_le _⟩) hS (fun H locs hP hS => ?_)
                            exact r_zret X hP hS (nar_bI _) (prz h) rfl dX9_isStep_129
                          · replace h := if_eln h h_27
                            by_cases h_29 : a0 = 14
                            · replace h := if_elp h h_29
                              refine lv_tableIn (off := 177) (tgt := 178) hx hb dX9_isStep_1 (by rw [h_29]; decide) (by rw [h_29]; decide) (by rw [h_29]; rfl) (by decide) ?_
                              refine lv_iload_n hx hb dX9_isStep_178 rfl (lv_at hl 0 rfl) ?_
                              refine lv_i2l (v := (Int32.toInt64 a0)) hx hb dX9_isStep_179 rfl ?_
                              refine lv_lconst (v := 0) hx hb dX9_isStep_180 rfl ?_
                              refine lv_ldc2 (v := 15) hx hb hown (hts _ k_691) dX9_isStep_181 ?_
                              obtain ⟨r_16, h_30, h⟩ := bd_el h
                              refine cl_i (rn_S X hP (c_X9_in h_30) k_646 k_647 k_9 k_648 hd_X9_in (n := 3) ⟨⟨rfl, rfl⟩, Nat.le_of_ble_eq_true rfl, Nat.le_of_ble_eq_true rfl⟩ (As := [.long (Int32.toInt64 a0), .long 0, .long 15]) (rest := []) rfl hl.1 rfl (Nat.le_of_ble_eq_true rfl) dX9_isStep_184 ⟨Nat.zero_le _, Nat.zero_le _⟩) hS (fun H locs hP hS => ?_)
                              exact r_zret X hP hS (nar_bI _) (prz h) rfl dX9_isStep_187
                            · replace h := if_eln h h_29
                              by_cases h_31 : a0 = 15
                              · replace h := if_elp h h_31
                                refine lv_tableIn (off := 177) (tgt := 178) hx hb dX9_isStep_1 (by rw [h_31]; decide) (by rw [h_31]; decide) (by rw [h_31]; rfl) (by decide) ?_
                                refine lv_iload_n hx hb dX9_isStep_178 rfl (lv_at hl 0 rfl) ?_
                                refine lv_i2l (v := (Int32.toInt64 a0)) hx hb dX9_isStep_179 rfl ?_
                                refine lv_lconst (v := 0) hx hb dX9_isStep_180 rfl ?_
                                refine lv_ldc2 (v := 15) hx hb hown (hts _ k_691) dX9_isStep_181 ?_
                                obtain ⟨r_17, h_32, h⟩ := bd_el h
                                refine cl_i (rn_S X hP (c_X9_in h_32) k_646 k_647 k_9 k_648 hd_X9_in (n := 3) ⟨⟨rfl, rfl⟩, Nat.le_of_ble_eq_true rfl, Nat.le_of_ble_eq_true rfl⟩ (As := [.long (Int32.toInt64 a0), .long 0, .long 15]) (rest := []) rfl hl.1 rfl (Nat.le_of_ble_eq_true rfl) dX9_isStep_184 ⟨Nat.zero_le _, Nat.zero_le _⟩) hS (fun H locs hP hS => ?_)
                                exact r_zret X hP hS (nar_bI _) (prz h) rfl dX9_isStep_187
                              · replace h := if_eln h h_31
                                by_cases h_33 : a0 = 16
                                · replace h := if_elp h h_33
                                  refine lv_tableIn (off := 129) (tgt := 130) hx hb dX9_isStep_1 (by rw [h_33]; decide) (by rw [h_33]; decide) (by rw [h_33]; rfl) (by decide) ?_
                                  refine lv_iload_n hx hb dX9_isStep_130 rfl (lv_at hl 1 rfl) ?_
                                  obtain ⟨r_18, h_34, h⟩ := bd_el h
                                  refine cl_i (rn_S X hP (c_X9_isTrade h_34) k_688 k_689 k_9 k_690 hd_X9_isTrade (n := 1) ⟨⟨rfl, rfl⟩, Nat.le_of_ble_eq_true rfl, Nat.le_of_ble_eq_true rfl⟩ (As := [.int a1]) (rest := []) rfl hl.1 rfl (Nat.le_of_ble_eq_true rfl) dX9_isStep_131 ⟨Nat.zero_le _, Nat.zero_le _⟩) hS (fun H locs hP hS => ?_)
                                  exact r_zret X hP hS (nar_bI _) (prz h) rfl dX9_isStep_134
                                · replace h := if_eln h h_33
                                  by_cases h_35 : a0 = 17
                                  · replace h := if_elp h h_35
                                    refine lv_tableIn (off := 129) (tgt := 130) hx hb dX9_isStep_1 (by rw [h_35]; decide) (by rw [h_35]; decide) (by rw [h_35]; rfl) (by decide) ?_
                                    refine lv_iload_n hx hb dX9_isStep_130 rfl (lv_at hl 1 rfl) ?_
                                    obtain ⟨r_19, h_36, h⟩ := bd_el h
                                    refine cl_i (rn_S X hP (c_X9_isTrade h_36) k_688 k_689 k_9 k_690 hd_X9_isTrade (n := 1) ⟨⟨rfl, rfl⟩, Nat.le_of_ble_eq_true rfl, Nat.le_of_ble_eq_true rfl⟩ (As := [.int a1]) (rest := []) rfl hl.1 rfl (Nat.le_of_ble_eq_true rfl) dX9_isStep_131 ⟨Nat.zero_le _, Nat.zero_le _⟩) hS (fun H locs hP hS => ?_)
                                    exact r_zret X hP hS (nar_bI _) (prz h) rfl dX9_isStep_134
                                  · replace h := if_eln h h_35
                                    by_cases h_37 : a0 = 18
                                    · replace h := if_elp h h_37
                                      refine lv_tableIn (off := 134) (tgt := 135) hx hb dX9_isStep_1 (by rw [h_37]; decide) (by rw [h_37]; decide) (by rw [h_37]; rfl) (by decide) ?_
                                      refine lv_iload_n hx hb dX9_isStep_135 rfl (lv_at hl 1 rfl) ?_
                                      obtain ⟨r_20, h_38, h⟩ := bd_el h
                                      refine cl_i (rn_S X hP (c_X9_isTrade h_38) k_688 k_689 k_9 k_690 hd_X9_isTrade (n := 1) ⟨⟨rfl, rfl⟩, Nat.le_of_ble_eq_true rfl, Nat.le_of_ble_eq_true rfl⟩ (As := [.int a1]) (rest := []) rfl hl.1 rfl (Nat.le_of_ble_eq_true rfl) dX9_isStep_136 ⟨Nat.zero_le _, Nat.zero_le _⟩) hS (fun H locs hP hS => ?_)
                                      refine lv_if_eq (tgt := 153) hx hb dX9_isStep_139 (by decide) (fun hc => ?_) (fun hc => ?_)
                                      · replace h := if_elp h hc
                                        refine lv_iconst (v := 0) hx hb dX9_isStep_153 (by decide) ?_
                                        exact r_zret X hP hS rfl (prz h) rfl dX9_isStep_154
                                      · replace h := if_eln h hc
                                        refine lv_iload_n hx hb dX9_isStep_142 rfl (lv_at hl 2 rfl) ?_
                                        obtain ⟨r_21, h_39, h⟩ := bd_el h
                                        refine cl_i (rn_S X hP (c_X9_isTrade h_39) k_688 k_689 k_9 k_690 hd_X9_isTrade (n := 1) ⟨⟨rfl, rfl⟩, Nat.le_of_ble_eq_true rfl, Nat.le_of_ble_eq_true rfl⟩ (As := [.int a2]) (rest := []) rfl hl.1 rfl (Nat.le_of_ble_eq_true rfl) dX9_isStep_143 ⟨Nat.zero_le _, Nat.zero_le _⟩) hS (fun H locs hP hS => ?_)
                                        refine lv_if_eq (tgt := 153) hx hb dX9_isStep_146 (by decide) (fun hc => ?_) (fun hc => ?_)
                                        · replace h := if_elp h hc
                                          refine lv_iconst (v := 0) hx hb dX9_isStep_153 (by decide) ?_
                                          exact r_zret X hP hS rfl (prz h) rfl dX9_isStep_154
                                        · replace h := if_eln h hc
                                          refine lv_iconst (v := 1) hx hb dX9_isStep_149 (by decide) ?_
                                          refine lv_goto (tgt := 154) hx hb dX9_isStep_150 (by decide) ?_
                                          exact r_zret X hP hS rfl (prz h) rfl dX9_isStep_154
                                    · replace h := if_eln h h_37
                                      by_cases h_40 : a0 = 19
                                      · replace h := if_elp h h_40
                                        refine lv_tableIn (off := 154) (tgt := 155) hx hb dX9_isStep_1 (by rw [h_40]; decide) (by rw [h_40]; decide) (by rw [h_40]; rfl) (by decide) ?_
                                        refine lv_iload_n hx hb dX9_isStep_155 rfl (lv_at hl 1 rfl) ?_
                                        refine lv_if_eq (tgt := 172) hx hb dX9_isStep_156 (by decide) (fun hc => ?_) (fun hc => ?_)
                                        · replace h := if_elp h hc
                                          exact w_X9_isStep_172 X hP hS (lv_sub hl [] rfl) h
                                        · replace h := if_eln h hc
                                          refine lv_iload_n hx hb dX9_isStep_159 rfl (lv_at hl 1 rfl) ?_
                                          refine lv_iconst (v := 1) hx hb dX9_isStep_160 (by decide) ?_
                                          refine lv_icmp_ne (tgt := 176) hx hb dX9_isStep_161 (by decide) (fun hc => ?_) (fun hc => ?_)
                                          · replace h := if_eln h hc
                                            refine lv_iconst (v := 0) hx hb dX9_isStep_176 (by decide) ?_
                                            exact r_zret X hP hS rfl (prz h) rfl dX9_isStep_177
                                          · replace h := if_elp h hc
                                            refine lv_iload_n hx hb dX9_isStep_164 rfl (lv_at hl 2 rfl) ?_
                                            refine lv_i2l (v := (Int32.toInt64 a2)) hx hb dX9_isStep_165 rfl ?_
                                            obtain ⟨r_22, h_41, h⟩ := bd_el h
                                            refine cl_i (rn_S X hP (c_X9_isCell h_41) k_642 k_643 k_9 k_644 hd_X9_isCell (n := 1) ⟨⟨rfl, rfl⟩, Nat.le_of_ble_eq_true rfl, Nat.le_of_ble_eq_true rfl⟩ (As := [.long (Int32.toInt64 a2)]) (rest := []) rfl hl.1 rfl (Nat.le_of_ble_eq_true rfl) dX9_isStep_166 ⟨Nat.zero_le _, Nat.zero_le _⟩) hS (fun H locs hP hS => ?_)
                                            refine lv_if_eq (tgt := 176) hx hb dX9_isStep_169 (by decide) (fun hc => ?_) (fun hc => ?_)
                                            · replace h := if_elp h hc
                                              refine lv_iconst (v := 0) hx hb dX9_isStep_176 (by decide) ?_
                                              exact r_zret X hP hS rfl (prz h) rfl dX9_isStep_177
                                            · replace h := if_eln h hc
                                              exact w_X9_isStep_172 X hP hS (lv_sub hl [] rfl) h
                                      · replace h := if_eln h h_40
                                        refine lv_tableOut (tgt := 178) hx hb dX9_isStep_1 (by have z0 := lv_neT (a := 1) h_1 rfl; have z1 := lv_neT (a := 2) h_3 rfl; have z2 := lv_neT (a := 3) h_5 rfl; have z3 := lv_neT (a := 4) h_7 rfl; have z4 := lv_neT (a := 5) h_9 rfl; have z5 := lv_neT (a := 6) h_11 rfl; have z6 := lv_neT (a := 7) h_13 rfl; have z7 := lv_neT (a := 8) h_15 rfl; have z8 := lv_neT (a := 9) h_17 rfl; have z9 := lv_neT (a := 10) h_19 rfl; have z10 := lv_neT (a := 11) h_22 rfl; have z11 := lv_neT (a := 12) h_25 rfl; have z12 := lv_neT (a := 13) h_27 rfl; have z13 := lv_neT (a := 14) h_29 rfl; have z14 := lv_neT (a := 15) h_31 rfl; have z15 := lv_neT (a := 16) h_33 rfl; have z16 := lv_neT (a := 17) h_35 rfl; have z17 := lv_neT (a := 18) h_37 rfl; have z18 := lv_neT (a := 19) h_40 rfl; omega) (by decide) ?_
                                        refine lv_iload_n hx hb dX9_isStep_178 rfl (lv_at hl 0 rfl) ?_
                                        refine lv_i2l (v := (Int32.toInt64 a0)) hx hb dX9_isStep_179 rfl ?_
                                        refine lv_lconst (v := 0) hx hb dX9_isStep_180 rfl ?_
                                        refine lv_ldc2 (v := 15) hx hb hown (hts _ k_691) dX9_isStep_181 ?_
                                        obtain ⟨r_23, h_42, h⟩ := bd_el h
                                        refine cl_i (rn_S X hP (c_X9_in h_42) k_646 k_647 k_9 k_648 hd_X9_in (n := 3) ⟨⟨rfl, rfl⟩, Nat.le_of_ble_eq_true rfl, Nat.le_of_ble_eq_true rfl⟩ (As := [.long (Int32.toInt64 a0), .long 0, .long 15]) (rest := []) rfl hl.1 rfl (Nat.le_of_ble_eq_true rfl) dX9_isStep_184 ⟨Nat.zero_le _, Nat.zero_le _⟩) hS (fun H locs hP hS => ?_)
                                        exact r_zret X hP hS (nar_bI _) (prz h) rfl dX9_isStep_187
abbrev rmX9_step : Room := { frames := 3, cells := 0, slots := 0, locals := 68 }
def f_X9_step (M : Mem) (a1 : Int32) (a2 : Int32) (a3 : Int32) (a4 : Int32) : Option (Int32 × Mem) :=
  Option.bind (f_X9_isTrade a1) fun r_1 => if (bI r_1) = 0 then (some ((-2), M)) else (Option.bind (f_X9_isStep a2 a3 a4) fun r_2 => if (bI r_2) = 0 then (some ((-2), M)) else (gd (inR a1 16) <| if (gI M 128 a1.toNatClampNeg) = 24 then (some ((-3), M)) else (gd (inR a1 16) <| lt ((24 * a1) + (gI M 128 a1.toNatClampNeg)) fun v_1 => gd (inR v_1 384) <| lt (sI M 129 v_1.toNatClampNeg a2) fun M_1 => gd (inR v_1 384) <| lt (sI M_1 130 v_1.toNatClampNeg a3) fun M_2 => gd (inR v_1 384) <| lt (sI M_2 131 v_1.toNatClampNeg a4) fun M_3 => gd (inR a1 16) <| gd (inR a1 16) <| lt (sI M_3 128 a1.toNatClampNeg ((gI M_3 128 a1.toNatClampNeg) + 1)) fun M_4 => gd (inR a1 16) <| some ((gI M_4 128 a1.toNatClampNeg), M_4))))
set_option maxRecDepth 100000 in
set_option maxHeartbeats 4000000 in
theorem c_X9_step {l : Launch} {G : va_G} {cy : Nat → ClassId} {B nT : Nat} {M : Mem} {a1 : Int32} {a2 : Int32} {a3 : Int32} {a4 : Int32} {out : Int32 × Mem} (h : f_X9_step M a1 a2 a3 a4 = some out) : Met l yX9_step (wsU yX9_step cX9_step 6 (some .int)) rmX9_step (va_Pc [.ref (B + 119), .int a1, .int a2, .int a3, .int a4] (PU G B cy nT M)) (Qi G B cy nT out.1 out.2) 0 0 (FB B) := by
  refine r_met (by decide +kernel) RX9 rfl (Nat.le_of_ble_eq_true rfl) ?_
  intro p e s m args below meth c ls X hP hl
  have hl : lv_has ls 6 [(0, .ref (B + 119)), (1, .int a1), (2, .int a2), (3, .int a3), (4, .int a4)] := hl
  have hS : va_S (FB B) s.heap s.heap [] := va_S.rf
  obtain ⟨hx, hb, hr, hml, hown, hts, hKn, hlk⟩ := id X
  unfold f_X9_step at h
  refine lv_iload_n hx hb dX9_step_0 rfl (lv_at hl 1 rfl) ?_
  obtain ⟨r_1, h_1, h⟩ := bd_el h
  refine cl_i (rn_S X hP (c_X9_isTrade h_1) k_688 k_689 k_9 k_690 hd_X9_isTrade (n := 1) ⟨⟨rfl, rfl⟩, Nat.le_of_ble_eq_true rfl, Nat.le_of_ble_eq_true rfl⟩ (As := [.int a1]) (rest := []) rfl hl.1 rfl (Nat.le_of_ble_eq_true rfl) dX9_step_1 ⟨Nat.zero_le _, Nat.zero_le _⟩) hS (fun H locs hP hS => ?_)
  refine lv_if_eq (tgt := 17) hx hb dX9_step_4 (by decide) (fun hc => ?_) (fun hc => ?_)
  · replace h := if_elp h hc
    refine lv_bipush (v := (-2)) hx hb dX9_step_17 (by decide) ?_
    exact r_iret X hP hS (pr1 h) (pr2 h) dX9_step_19
  · replace h := if_eln h hc
    refine lv_iload_n hx hb dX9_step_7 rfl (lv_at hl 2 rfl) ?_
    refine lv_iload_n hx hb dX9_step_8 rfl (lv_at hl 3 rfl) ?_
    refine lv_iload hx hb dX9_step_9 (lv_at hl 4 rfl) ?_
    obtain ⟨r_2, h_2, h⟩ := bd_el h
    refine cl_i (rn_S X hP (c_X9_isStep h_2) k_692 k_693 k_9 k_694 hd_X9_isStep (n := 3) ⟨⟨rfl, rfl⟩, Nat.le_of_ble_eq_true rfl, Nat.le_of_ble_eq_true rfl⟩ (As := [.int a2, .int a3, .int a4]) (rest := []) rfl hl.1 rfl (Nat.le_of_ble_eq_true rfl) dX9_step_11 ⟨Nat.zero_le _, Nat.zero_le _⟩) hS (fun H locs hP hS => ?_)
    refine lv_if_ne (tgt := 20) hx hb dX9_step_14 (by decide) (fun hc => ?_) (fun hc => ?_)
    · replace h := if_eln h hc
      refine lv_aload_n hx hb dX9_step_20 rfl (lv_at hl 0 rfl) ?_
      refine gf_X9_35 X hP dX9_step_21 ?_
      refine lv_iload_n hx hb dX9_step_24 rfl (lv_at hl 1 rfl) ?_
      obtain ⟨g_1, h⟩ := gd_el h
      refine r_iald X hP kq_128 g_1 dX9_step_25 ?_
      refine lv_bipush (v := 24) hx hb dX9_step_26 (by decide) ?_
      refine lv_icmp_ne (tgt := 34) hx hb dX9_step_28 (by decide) (fun hc => ?_) (fun hc => ?_)
      · replace h := if_eln h hc
        refine lv_bipush (v := 24) hx hb dX9_step_34 (by decide) ?_
        refine lv_iload_n hx hb dX9_step_36 rfl (lv_at hl 1 rfl) ?_
        refine lv_imul hx hb dX9_step_37 ?_
        refine lv_aload_n hx hb dX9_step_38 rfl (lv_at hl 0 rfl) ?_
        refine gf_X9_35 X hP dX9_step_39 ?_
        refine lv_iload_n hx hb dX9_step_42 rfl (lv_at hl 1 rfl) ?_
        obtain ⟨g_2, h⟩ := gd_el h
        refine r_iald X hP kq_128 g_2 dX9_step_43 ?_
        refine lv_iadd hx hb dX9_step_44 ?_
        obtain ⟨v_1, e_1, h⟩ := lt_el h
        refine r_topi e_1 ?_
        refine lv_istore (lv' := [(5, .int v_1), (0, .ref (B + 119)), (1, .int a1), (2, .int a2), (3, .int a3), (4, .int a4)]) hx hb dX9_step_45 hl (by decide) rfl (fun ls hl => ?_)
        refine lv_aload_n hx hb dX9_step_47 rfl (lv_at hl 1 rfl) ?_
        refine gf_X9_38 X hP dX9_step_48 ?_
        refine lv_iload hx hb dX9_step_51 (lv_at hl 0 rfl) ?_
        refine lv_iload_n hx hb dX9_step_53 rfl (lv_at hl 3 rfl) ?_
        obtain ⟨g_3, h⟩ := gd_el h
        obtain ⟨M_1, e_2, h⟩ := lt_el h
        refine r_iast X hP hS kq_129 g_3 e_2 dX9_step_54 (fun H locs hP hS => ?_)
        refine lv_aload_n hx hb dX9_step_55 rfl (lv_at hl 1 rfl) ?_
        refine gf_X9_41 X hP dX9_step_56 ?_
        refine lv_iload hx hb dX9_step_59 (lv_at hl 0 rfl) ?_
        refine lv_iload_n hx hb dX9_step_61 rfl (lv_at hl 4 rfl) ?_
        obtain ⟨g_4, h⟩ := gd_el h
        obtain ⟨M_2, e_3, h⟩ := lt_el h
        refine r_iast X hP hS kq_130 g_4 e_3 dX9_step_62 (fun H locs hP hS => ?_)
        refine lv_aload_n hx hb dX9_step_63 rfl (lv_at hl 1 rfl) ?_
        refine gf_X9_44 X hP dX9_step_64 ?_
        refine lv_iload hx hb dX9_step_67 (lv_at hl 0 rfl) ?_
        refine lv_iload hx hb dX9_step_69 (lv_at hl 5 rfl) ?_
        obtain ⟨g_5, h⟩ := gd_el h
        obtain ⟨M_3, e_4, h⟩ := lt_el h
        refine r_iast X hP hS kq_131 g_5 e_4 dX9_step_71 (fun H locs hP hS => ?_)
        refine lv_aload_n hx hb dX9_step_72 rfl (lv_at hl 1 rfl) ?_
        refine gf_X9_35 X hP dX9_step_73 ?_
        refine lv_iload_n hx hb dX9_step_76 rfl (lv_at hl 2 rfl) ?_
        refine lv_dup2_11 hx hb dX9_step_77 rfl rfl ?_
        obtain ⟨g_6, h⟩ := gd_el h
        refine r_iald X hP kq_128 g_6 dX9_step_78 ?_
        refine lv_iconst (v := 1) hx hb dX9_step_79 (by decide) ?_
        refine lv_iadd hx hb dX9_step_80 ?_
        obtain ⟨g_7, h⟩ := gd_el h
        obtain ⟨M_4, e_5, h⟩ := lt_el h
        refine r_iast X hP hS kq_128 g_7 e_5 dX9_step_81 (fun H locs hP hS => ?_)
        refine lv_aload_n hx hb dX9_step_82 rfl (lv_at hl 1 rfl) ?_
        refine gf_X9_35 X hP dX9_step_83 ?_
        refine lv_iload_n hx hb dX9_step_86 rfl (lv_at hl 2 rfl) ?_
        obtain ⟨g_8, h⟩ := gd_el h
        refine r_iald X hP kq_128 g_8 dX9_step_87 ?_
        exact r_iret X hP hS (pr1 h) (pr2 h) dX9_step_88
      · replace h := if_elp h hc
        refine lv_bipush (v := (-3)) hx hb dX9_step_31 (by decide) ?_
        exact r_iret X hP hS (pr1 h) (pr2 h) dX9_step_33
    · replace h := if_elp h hc
      refine lv_bipush (v := (-2)) hx hb dX9_step_17 (by decide) ?_
      exact r_iret X hP hS (pr1 h) (pr2 h) dX9_step_19
abbrev rmX9_drop : Room := { frames := 2, cells := 0, slots := 0, locals := 45 }
def f_X9_drop (M : Mem) (a1 : Int32) : Option (Int32 × Mem) :=
  Option.bind (f_X9_isTrade a1) fun r_1 => if (bI r_1) = 0 then (some ((-2), M)) else (gd (inR a1 16) <| lt (gI M 128 a1.toNatClampNeg) fun v_1 => gd (inR a1 16) <| lt (sI M 128 a1.toNatClampNeg 0) fun M_1 => some (v_1, M_1))
set_option maxRecDepth 100000 in
set_option maxHeartbeats 4000000 in
theorem c_X9_drop {l : Launch} {G : va_G} {cy : Nat → ClassId} {B nT : Nat} {M : Mem} {a1 : Int32} {out : Int32 × Mem} (h : f_X9_drop M a1 = some out) : Met l yX9_drop (wsU yX9_drop cX9_drop 3 (some .int)) rmX9_drop (va_Pc [.ref (B + 119), .int a1] (PU G B cy nT M)) (Qi G B cy nT out.1 out.2) 0 0 (FB B) := by
  refine r_met (by decide +kernel) RX9 rfl (Nat.le_of_ble_eq_true rfl) ?_
  intro p e s m args below meth c ls X hP hl
  have hl : lv_has ls 3 [(0, .ref (B + 119)), (1, .int a1)] := hl
  have hS : va_S (FB B) s.heap s.heap [] := va_S.rf
  obtain ⟨hx, hb, hr, hml, hown, hts, hKn, hlk⟩ := id X
  unfold f_X9_drop at h
  refine lv_iload_n hx hb dX9_drop_0 rfl (lv_at hl 1 rfl) ?_
  obtain ⟨r_1, h_1, h⟩ := bd_el h
  refine cl_i (rn_S X hP (c_X9_isTrade h_1) k_688 k_689 k_9 k_690 hd_X9_isTrade (n := 1) ⟨⟨rfl, rfl⟩, Nat.le_of_ble_eq_true rfl, Nat.le_of_ble_eq_true rfl⟩ (As := [.int a1]) (rest := []) rfl hl.1 rfl (Nat.le_of_ble_eq_true rfl) dX9_drop_1 ⟨Nat.zero_le _, Nat.zero_le _⟩) hS (fun H locs hP hS => ?_)
  refine lv_if_ne (tgt := 10) hx hb dX9_drop_4 (by decide) (fun hc => ?_) (fun hc => ?_)
  · replace h := if_eln h hc
    refine lv_aload_n hx hb dX9_drop_10 rfl (lv_at hl 0 rfl) ?_
    refine gf_X9_35 X hP dX9_drop_11 ?_
    refine lv_iload_n hx hb dX9_drop_14 rfl (lv_at hl 1 rfl) ?_
    obtain ⟨g_1, h⟩ := gd_el h
    refine r_iald X hP kq_128 g_1 dX9_drop_15 ?_
    obtain ⟨v_1, e_1, h⟩ := lt_el h
    refine r_topi e_1 ?_
    refine lv_istore_n (lv' := [(2, .int v_1), (0, .ref (B + 119)), (1, .int a1)]) hx hb dX9_drop_16 rfl hl (by decide) rfl (fun ls hl => ?_)
    refine lv_aload_n hx hb dX9_drop_17 rfl (lv_at hl 1 rfl) ?_
    refine gf_X9_35 X hP dX9_drop_18 ?_
    refine lv_iload_n hx hb dX9_drop_21 rfl (lv_at hl 2 rfl) ?_
    refine lv_iconst (v := 0) hx hb dX9_drop_22 (by decide) ?_
    obtain ⟨g_2, h⟩ := gd_el h
    obtain ⟨M_1, e_2, h⟩ := lt_el h
    refine r_iast X hP hS kq_128 g_2 e_2 dX9_drop_23 (fun H locs hP hS => ?_)
    refine lv_iload_n hx hb dX9_drop_24 rfl (lv_at hl 0 rfl) ?_
    exact r_iret X hP hS (pr1 h) (pr2 h) dX9_drop_25
  · replace h := if_elp h hc
    refine lv_bipush (v := (-2)) hx hb dX9_drop_7 (by decide) ?_
    exact r_iret X hP hS (pr1 h) (pr2 h) dX9_drop_9
abbrev rmX9_clash : Room := { frames := 2, cells := 0, slots := 0, locals := 45 }
def f_X9_clash (M : Mem) (a1 : Int32) (a2 : Int32) : Option (Int32 × Mem) :=
  Option.bind (f_X9_isTrade a1) fun r_1 => if (bI r_1) = 0 then (some ((-2), M)) else (Option.bind (f_X9_in (Int32.toInt64 a2) 0 10) fun r_2 => if (bI r_2) = 0 then (some ((-2), M)) else (gd (inR a1 16) <| lt (gI M 132 a1.toNatClampNeg) fun v_1 => gd (inR a1 16) <| lt (sI M 132 a1.toNatClampNeg a2) fun M_1 => some (v_1, M_1)))
set_option maxRecDepth 100000 in
set_option maxHeartbeats 4000000 in
theorem c_X9_clash {l : Launch} {G : va_G} {cy : Nat → ClassId} {B nT : Nat} {M : Mem} {a1 : Int32} {a2 : Int32} {out : Int32 × Mem} (h : f_X9_clash M a1 a2 = some out) : Met l yX9_clash (wsU yX9_clash cX9_clash 4 (some .int)) rmX9_clash (va_Pc [.ref (B + 119), .int a1, .int a2] (PU G B cy nT M)) (Qi G B cy nT out.1 out.2) 0 0 (FB B) := by
  refine r_met (by decide +kernel) RX9 rfl (Nat.le_of_ble_eq_true rfl) ?_
  intro p e s m args below meth c ls X hP hl
  have hl : lv_has ls 4 [(0, .ref (B + 119)), (1, .int a1), (2, .int a2)] := hl
  have hS : va_S (FB B) s.heap s.heap [] := va_S.rf
  obtain ⟨hx, hb, hr, hml, hown, hts, hKn, hlk⟩ := id X
  unfold f_X9_clash at h
  refine lv_iload_n hx hb dX9_clash_0 rfl (lv_at hl 1 rfl) ?_
  obtain ⟨r_1, h_1, h⟩ := bd_el h
  refine cl_i (rn_S X hP (c_X9_isTrade h_1) k_688 k_689 k_9 k_690 hd_X9_isTrade (n := 1) ⟨⟨rfl, rfl⟩, Nat.le_of_ble_eq_true rfl, Nat.le_of_ble_eq_true rfl⟩ (As := [.int a1]) (rest := []) rfl hl.1 rfl (Nat.le_of_ble_eq_true rfl) dX9_clash_1 ⟨Nat.zero_le _, Nat.zero_le _⟩) hS (fun H locs hP hS => ?_)
  refine lv_if_eq (tgt := 19) hx hb dX9_clash_4 (by decide) (fun hc => ?_) (fun hc => ?_)
  · replace h := if_elp h hc
    refine lv_bipush (v := (-2)) hx hb dX9_clash_19 (by decide) ?_
    exact r_iret X hP hS (pr1 h) (pr2 h) dX9_clash_21
  · replace h := if_eln h hc
    refine lv_iload_n hx hb dX9_clash_7 rfl (lv_at hl 2 rfl) ?_
    refine lv_i2l (v := (Int32.toInt64 a2)) hx hb dX9_clash_8 rfl ?_
    refine lv_lconst (v := 0) hx hb dX9_clash_9 rfl ?_
    refine lv_ldc2 (v := 10) hx hb hown (hts _ k_704) dX9_clash_10 ?_
    obtain ⟨r_2, h_2, h⟩ := bd_el h
    refine cl_i (rn_S X hP (c_X9_in h_2) k_646 k_647 k_9 k_648 hd_X9_in (n := 3) ⟨⟨rfl, rfl⟩, Nat.le_of_ble_eq_true rfl, Nat.le_of_ble_eq_true rfl⟩ (As := [.long (Int32.toInt64 a2), .long 0, .long 10]) (rest := []) rfl hl.1 rfl (Nat.le_of_ble_eq_true rfl) dX9_clash_13 ⟨Nat.zero_le _, Nat.zero_le _⟩) hS (fun H locs hP hS => ?_)
    refine lv_if_ne (tgt := 22) hx hb dX9_clash_16 (by decide) (fun hc => ?_) (fun hc => ?_)
    · replace h := if_eln h hc
      refine lv_aload_n hx hb dX9_clash_22 rfl (lv_at hl 0 rfl) ?_
      refine gf_X9_47 X hP dX9_clash_23 ?_
      refine lv_iload_n hx hb dX9_clash_26 rfl (lv_at hl 1 rfl) ?_
      obtain ⟨g_1, h⟩ := gd_el h
      refine r_iald X hP kq_132 g_1 dX9_clash_27 ?_
      obtain ⟨v_1, e_1, h⟩ := lt_el h
      refine r_topi e_1 ?_
      refine lv_istore_n (lv' := [(3, .int v_1), (0, .ref (B + 119)), (1, .int a1), (2, .int a2)]) hx hb dX9_clash_28 rfl hl (by decide) rfl (fun ls hl => ?_)
      refine lv_aload_n hx hb dX9_clash_29 rfl (lv_at hl 1 rfl) ?_
      refine gf_X9_47 X hP dX9_clash_30 ?_
      refine lv_iload_n hx hb dX9_clash_33 rfl (lv_at hl 2 rfl) ?_
      refine lv_iload_n hx hb dX9_clash_34 rfl (lv_at hl 3 rfl) ?_
      obtain ⟨g_2, h⟩ := gd_el h
      obtain ⟨M_1, e_2, h⟩ := lt_el h
      refine r_iast X hP hS kq_132 g_2 e_2 dX9_clash_35 (fun H locs hP hS => ?_)
      refine lv_iload_n hx hb dX9_clash_36 rfl (lv_at hl 0 rfl) ?_
      exact r_iret X hP hS (pr1 h) (pr2 h) dX9_clash_37
    · replace h := if_elp h hc
      refine lv_bipush (v := (-2)) hx hb dX9_clash_19 (by decide) ?_
      exact r_iret X hP hS (pr1 h) (pr2 h) dX9_clash_21
abbrev rmX9_rule : Room := { frames := 2, cells := 0, slots := 0, locals := 46 }
def f_X9_rule_58 (M : Mem) (v1 : Int32) (v2 : Int32) (v3 : Int32) (v4 : Int64) (s0 : Int32) : Option (Int32 × Mem) :=
  if s0 = 0 then (some ((-2), M)) else (if (gI M 119 13) = 10 then (some ((-3), M)) else (gd (inR (gI M 119 13) 10) <| lt (sI M 133 (gI M 119 13).toNatClampNeg v1) fun M_1 => gd (inR (gI M_1 119 13) 10) <| lt (sI M_1 134 (gI M_1 119 13).toNatClampNeg v2) fun M_2 => gd (inR (gI M_2 119 13) 10) <| lt (sI M_2 135 (gI M_2 119 13).toNatClampNeg v3) fun M_3 => gd (inR (gI M_3 119 13) 10) <| lt (sL M_3 136 (gI M_3 119 13).toNatClampNeg v4) fun M_4 => lt (sI M_4 119 13 ((gI M_4 119 13) + 1)) fun M_5 => some (((gI M_5 119 13) - 1), M_5)))
set_option maxRecDepth 100000 in
set_option maxHeartbeats 4000000 in
theorem w_X9_rule_58 (X : Cx p s m args meth c cX9_rule RX9 7 (some .int) G cy) {out : Int32 × Mem} {M : Mem} {v1 : Int32} {v2 : Int32} {v3 : Int32} {v4 : Int64} {s0 : Int32} (hP : Pic G B cy nT M H) (hS : va_S (FB B) s.heap H locs) (hl : lv_has ls 7 [(0, .ref (B + 119)), (1, .int v1), (2, .int v2), (3, .int v3), (4, .long v4)]) (h : f_X9_rule_58 M v1 v2 v3 v4 s0 = some out) : W p l e rmX9_rule s m args below meth c H locs 0 0 (MQ below (Qi G B cy nT out.1 out.2) args s 0 0 (FB B)) (F0 m 58 ls [.int s0]) := by
  obtain ⟨hx, hb, hr, hml, hown, hts, hKn, hlk⟩ := id X
  unfold f_X9_rule_58 at h
  refine lv_istore (lv' := [(6, .int s0), (0, .ref (B + 119)), (1, .int v1), (2, .int v2), (3, .int v3), (4, .long v4)]) hx hb dX9_rule_58 hl (by decide) rfl (fun ls hl => ?_)
  refine lv_iload hx hb dX9_rule_60 (lv_at hl 0 rfl) ?_
  refine lv_if_ne (tgt := 68) hx hb dX9_rule_62 (by decide) (fun hc => ?_) (fun hc => ?_)
  · replace h := if_eln h hc
    refine lv_aload_n hx hb dX9_rule_68 rfl (lv_at hl 1 rfl) ?_
    refine gf_X9_264 X hP dX9_rule_69 ?_
    refine lv_bipush (v := 10) hx hb dX9_rule_72 (by decide) ?_
    refine lv_icmp_ne (tgt := 80) hx hb dX9_rule_74 (by decide) (fun hc => ?_) (fun hc => ?_)
    · replace h := if_eln h hc
      refine lv_aload_n hx hb dX9_rule_80 rfl (lv_at hl 1 rfl) ?_
      refine gf_X9_50 X hP dX9_rule_81 ?_
      refine lv_aload_n hx hb dX9_rule_84 rfl (lv_at hl 1 rfl) ?_
      refine gf_X9_264 X hP dX9_rule_85 ?_
      refine lv_iload_n hx hb dX9_rule_88 rfl (lv_at hl 2 rfl) ?_
      obtain ⟨g_1, h⟩ := gd_el h
      obtain ⟨M_1, e_1, h⟩ := lt_el h
      refine r_iast X hP hS kq_133 g_1 e_1 dX9_rule_89 (fun H locs hP hS => ?_)
      refine lv_aload_n hx hb dX9_rule_90 rfl (lv_at hl 1 rfl) ?_
      refine gf_X9_53 X hP dX9_rule_91 ?_
      refine lv_aload_n hx hb dX9_rule_94 rfl (lv_at hl 1 rfl) ?_
      refine gf_X9_264 X hP dX9_rule_95 ?_
      refine lv_iload_n hx hb dX9_rule_98 rfl (lv_at hl 3 rfl) ?_
      obtain ⟨g_2, h⟩ := gd_el h
      obtain ⟨M_2, e_2, h⟩ := lt_el h
      refine r_iast X hP hS kq_134 g_2 e_2 dX9_rule_99 (fun H locs hP hS => ?_)
      refine lv_aload_n hx hb dX9_rule_100 rfl (lv_at hl 1 rfl) ?_
      refine gf_X9_56 X hP dX9_rule_101 ?_
      refine lv_aload_n hx hb dX9_rule_104 rfl (lv_at hl 1 rfl) ?_
      refine gf_X9_264 X hP dX9_rule_105 ?_
      refine lv_iload_n hx hb dX9_rule_108 rfl (lv_at hl 4 rfl) ?_
      obtain ⟨g_3, h⟩ := gd_el h
      obtain ⟨M_3, e_3, h⟩ := lt_el h
      refine r_iast X hP hS kq_135 g_3 e_3 dX9_rule_109 (fun H locs hP hS => ?_)
      refine lv_aload_n hx hb dX9_rule_110 rfl (lv_at hl 1 rfl) ?_
      refine gf_X9_59 X hP dX9_rule_111 ?_
      refine lv_aload_n hx hb dX9_rule_114 rfl (lv_at hl 1 rfl) ?_
      refine gf_X9_264 X hP dX9_rule_115 ?_
      refine lv_lload hx hb dX9_rule_118 (lv_at hl 5 rfl) ?_
      obtain ⟨g_4, h⟩ := gd_el h
      obtain ⟨M_4, e_4, h⟩ := lt_el h
      refine r_last X hP hS kq_136 g_4 e_4 dX9_rule_120 (fun H locs hP hS => ?_)
      refine lv_aload_n hx hb dX9_rule_121 rfl (lv_at hl 1 rfl) ?_
      refine lv_dup hx hb dX9_rule_122 rfl ?_
      refine gf_X9_264 X hP dX9_rule_123 ?_
      refine lv_iconst (v := 1) hx hb dX9_rule_126 (by decide) ?_
      refine lv_iadd hx hb dX9_rule_127 ?_
      obtain ⟨M_5, e_5, h⟩ := lt_el h
      refine pf_X9_264 X hP hS e_5 dX9_rule_128 (fun H locs hP hS => ?_)
      refine lv_aload_n hx hb dX9_rule_131 rfl (lv_at hl 1 rfl) ?_
      refine gf_X9_264 X hP dX9_rule_132 ?_
      refine lv_iconst (v := 1) hx hb dX9_rule_135 (by decide) ?_
      refine lv_isub hx hb dX9_rule_136 ?_
      exact r_iret X hP hS (pr1 h) (pr2 h) dX9_rule_137
    · replace h := if_elp h hc
      refine lv_bipush (v := (-3)) hx hb dX9_rule_77 (by decide) ?_
      exact r_iret X hP hS (pr1 h) (pr2 h) dX9_rule_79
  · replace h := if_elp h hc
    refine lv_bipush (v := (-2)) hx hb dX9_rule_65 (by decide) ?_
    exact r_iret X hP hS (pr1 h) (pr2 h) dX9_rule_67
def f_X9_rule_57 (M : Mem) (v1 : Int32) (v2 : Int32) (v3 : Int32) (v4 : Int64) : Option (Int32 × Mem) :=
  f_X9_rule_58 M v1 v2 v3 v4 0
set_option maxRecDepth 100000 in
set_option maxHeartbeats 4000000 in
theorem w_X9_rule_57 (X : Cx p s m args meth c cX9_rule RX9 7 (some .int) G cy) {out : Int32 × Mem} {M : Mem} {v1 : Int32} {v2 : Int32} {v3 : Int32} {v4 : Int64} (hP : Pic G B cy nT M H) (hS : va_S (FB B) s.heap H locs) (hl : lv_has ls 7 [(0, .ref (B + 119)), (1, .int v1), (2, .int v2), (3, .int v3), (4, .long v4)]) (h : f_X9_rule_57 M v1 v2 v3 v4 = some out) : W p l e rmX9_rule s m args below meth c H locs 0 0 (MQ below (Qi G B cy nT out.1 out.2) args s 0 0 (FB B)) (F0 m 57 ls []) := by
  obtain ⟨hx, hb, hr, hml, hown, hts, hKn, hlk⟩ := id X
  unfold f_X9_rule_57 at h
  refine lv_iconst (v := 0) hx hb dX9_rule_57 (by decide) ?_
  exact w_X9_rule_58 X hP hS (lv_sub hl [0, 1, 2, 3, 4] rfl) h
def f_X9_rule_53 (M : Mem) (v1 : Int32) (v2 : Int32) (v3 : Int32) (v4 : Int64) : Option (Int32 × Mem) :=
  f_X9_rule_58 M v1 v2 v3 v4 1
set_option maxRecDepth 100000 in
set_option maxHeartbeats 4000000 in
theorem w_X9_rule_53 (X : Cx p s m args meth c cX9_rule RX9 7 (some .int) G cy) {out : Int32 × Mem} {M : Mem} {v1 : Int32} {v2 : Int32} {v3 : Int32} {v4 : Int64} (hP : Pic G B cy nT M H) (hS : va_S (FB B) s.heap H locs) (hl : lv_has ls 7 [(0, .ref (B + 119)), (1, .int v1), (2, .int v2), (3, .int v3), (4, .long v4)]) (h : f_X9_rule_53 M v1 v2 v3 v4 = some out) : W p l e rmX9_rule s m args below meth c H locs 0 0 (MQ below (Qi G B cy nT out.1 out.2) args s 0 0 (FB B)) (F0 m 53 ls []) := by
  obtain ⟨hx, hb, hr, hml, hown, hts, hKn, hlk⟩ := id X
  unfold f_X9_rule_53 at h
  refine lv_iconst (v := 1) hx hb dX9_rule_53 (by decide) ?_
  refine lv_goto (tgt := 58) hx hb dX9_rule_54 (by decide) ?_
  exact w_X9_rule_58 X hP hS (lv_sub hl [0, 1, 2, 3, 4] rfl) h
def f_X9_rule_40 (M : Mem) (v1 : Int32) (v2 : Int32) (v3 : Int32) (v4 : Int64) : Option (Int32 × Mem) :=
  if v1 = 1 then (Option.bind (f_X9_isCell (Int32.toInt64 v3)) fun r_1 => if (bI r_1) = 0 then (f_X9_rule_57 M v1 v2 v3 v4) else (f_X9_rule_53 M v1 v2 v3 v4)) else (f_X9_rule_53 M v1 v2 v3 v4)
set_option maxRecDepth 100000 in
set_option maxHeartbeats 4000000 in
theorem w_X9_rule_40 (X : Cx p s m args meth c cX9_rule RX9 7 (some .int) G cy) {out : Int32 × Mem} {M : Mem} {v1 : Int32} {v2 : Int32} {v3 : Int32} {v4 : Int64} (hP : Pic G B cy nT M H) (hS : va_S (FB B) s.heap H locs) (hl : lv_has ls 7 [(0, .ref (B + 119)), (1, .int v1), (2, .int v2), (3, .int v3), (4, .long v4)]) (h : f_X9_rule_40 M v1 v2 v3 v4 = some out) : W p l e rmX9_rule s m args below meth c H locs 0 0 (MQ below (Qi G B cy nT out.1 out.2) args s 0 0 (FB B)) (F0 m 40 ls []) := by
  obtain ⟨hx, hb, hr, hml, hown, hts, hKn, hlk⟩ := id X
  unfold f_X9_rule_40 at h
  refine lv_iload_n hx hb dX9_rule_40 rfl (lv_at hl 1 rfl) ?_
  refine lv_iconst (v := 1) hx hb dX9_rule_41 (by decide) ?_
  refine lv_icmp_ne (tgt := 53) hx hb dX9_rule_42 (by decide) (fun hc => ?_) (fun hc => ?_)
  · replace h := if_eln h hc
    exact w_X9_rule_53 X hP hS (lv_sub hl [0, 1, 2, 3, 4] rfl) h
  · replace h := if_elp h hc
    refine lv_iload_n hx hb dX9_rule_45 rfl (lv_at hl 3 rfl) ?_
    refine lv_i2l (v := (Int32.toInt64 v3)) hx hb dX9_rule_46 rfl ?_
    obtain ⟨r_1, h_1, h⟩ := bd_el h
    refine cl_i (rn_S X hP (c_X9_isCell h_1) k_642 k_643 k_9 k_644 hd_X9_isCell (n := 1) ⟨⟨rfl, rfl⟩, Nat.le_of_ble_eq_true rfl, Nat.le_of_ble_eq_true rfl⟩ (As := [.long (Int32.toInt64 v3)]) (rest := []) rfl hl.1 rfl (Nat.le_of_ble_eq_true rfl) dX9_rule_47 ⟨Nat.zero_le _, Nat.zero_le _⟩) hS (fun H locs hP hS => ?_)
    refine lv_if_eq (tgt := 57) hx hb dX9_rule_50 (by decide) (fun hc => ?_) (fun hc => ?_)
    · replace h := if_elp h hc
      exact w_X9_rule_57 X hP hS (lv_sub hl [0, 1, 2, 3, 4] rfl) h
    · replace h := if_eln h hc
      exact w_X9_rule_53 X hP hS (lv_sub hl [0, 1, 2, 3, 4] rfl) h
def f_X9_rule (M : Mem) (a1 : Int32) (a2 : Int32) (a3 : Int32) (a4 : Int64) : Option (Int32 × Mem) :=
  Option.bind (f_X9_in (Int32.toInt64 a1) 0 3) fun r_1 => if (bI r_1) = 0 then (f_X9_rule_57 M a1 a2 a3 a4) else (if 2 ≤ a1 then (Option.bind (f_X9_in (Int32.toInt64 a2) 0 7) fun r_2 => if (bI r_2) = 0 then (f_X9_rule_57 M a1 a2 a3 a4) else (f_X9_rule_40 M a1 a2 a3 a4)) else (Option.bind (f_X9_isCell (Int32.toInt64 a2)) fun r_3 => if (bI r_3) = 0 then (f_X9_rule_57 M a1 a2 a3 a4) else (f_X9_rule_40 M a1 a2 a3 a4)))
set_option maxRecDepth 100000 in
set_option maxHeartbeats 4000000 in
theorem c_X9_rule {l : Launch} {G : va_G} {cy : Nat → ClassId} {B nT : Nat} {M : Mem} {a1 : Int32} {a2 : Int32} {a3 : Int32} {a4 : Int64} {out : Int32 × Mem} (h : f_X9_rule M a1 a2 a3 a4 = some out) : Met l yX9_rule (wsU yX9_rule cX9_rule 7 (some .int)) rmX9_rule (va_Pc [.ref (B + 119), .int a1, .int a2, .int a3, .long a4] (PU G B cy nT M)) (Qi G B cy nT out.1 out.2) 0 0 (FB B) := by
  refine r_met (by decide +kernel) RX9 rfl (Nat.le_of_ble_eq_true rfl) ?_
  intro p e s m args below meth c ls X hP hl
  have hl : lv_has ls 7 [(0, .ref (B + 119)), (1, .int a1), (2, .int a2), (3, .int a3), (4, .long a4)] := hl
  have hS : va_S (FB B) s.heap s.heap [] := va_S.rf
  obtain ⟨hx, hb, hr, hml, hown, hts, hKn, hlk⟩ := id X
  unfold f_X9_rule at h
  refine lv_iload_n hx hb dX9_rule_0 rfl (lv_at hl 1 rfl) ?_
  refine lv_i2l (v := (Int32.toInt64 a1)) hx hb dX9_rule_1 rfl ?_
  refine lv_lconst (v := 0) hx hb dX9_rule_2 rfl ?_
  refine lv_ldc2 (v := 3) hx hb hown (hts _ k_709) dX9_rule_3 ?_
  obtain ⟨r_1, h_1, h⟩ := bd_el h
  refine cl_i (rn_S X hP (c_X9_in h_1) k_646 k_647 k_9 k_648 hd_X9_in (n := 3) ⟨⟨rfl, rfl⟩, Nat.le_of_ble_eq_true rfl, Nat.le_of_ble_eq_true rfl⟩ (As := [.long (Int32.toInt64 a1), .long 0, .long 3]) (rest := []) rfl hl.1 rfl (Nat.le_of_ble_eq_true rfl) dX9_rule_6 ⟨Nat.zero_le _, Nat.zero_le _⟩) hS (fun H locs hP hS => ?_)
  refine lv_if_eq (tgt := 57) hx hb dX9_rule_9 (by decide) (fun hc => ?_) (fun hc => ?_)
  · replace h := if_elp h hc
    exact w_X9_rule_57 X hP hS (lv_sub hl [0, 1, 2, 3, 4] rfl) h
  · replace h := if_eln h hc
    refine lv_iload_n hx hb dX9_rule_12 rfl (lv_at hl 1 rfl) ?_
    refine lv_iconst (v := 2) hx hb dX9_rule_13 (by decide) ?_
    refine lv_icmp_ge (tgt := 28) hx hb dX9_rule_14 (by decide) (fun hc => ?_) (fun hc => ?_)
    · replace h := if_elp h hc
      refine lv_iload_n hx hb dX9_rule_28 rfl (lv_at hl 2 rfl) ?_
      refine lv_i2l (v := (Int32.toInt64 a2)) hx hb dX9_rule_29 rfl ?_
      refine lv_lconst (v := 0) hx hb dX9_rule_30 rfl ?_
      refine lv_ldc2 (v := 7) hx hb hown (hts _ k_656) dX9_rule_31 ?_
      obtain ⟨r_2, h_2, h⟩ := bd_el h
      refine cl_i (rn_S X hP (c_X9_in h_2) k_646 k_647 k_9 k_648 hd_X9_in (n := 3) ⟨⟨rfl, rfl⟩, Nat.le_of_ble_eq_true rfl, Nat.le_of_ble_eq_true rfl⟩ (As := [.long (Int32.toInt64 a2), .long 0, .long 7]) (rest := []) rfl hl.1 rfl (Nat.le_of_ble_eq_true rfl) dX9_rule_34 ⟨Nat.zero_le _, Nat.zero_le _⟩) hS (fun H locs hP hS => ?_)
      refine lv_if_eq (tgt := 57) hx hb dX9_rule_37 (by decide) (fun hc => ?_) (fun hc => ?_)
      · replace h := if_elp h hc
        exact w_X9_rule_57 X hP hS (lv_sub hl [0, 1, 2, 3, 4] rfl) h
      · replace h := if_eln h hc
        exact w_X9_rule_40 X hP hS (lv_sub hl [0, 1, 2, 3, 4] rfl) h
    · replace h := if_eln h hc
      refine lv_iload_n hx hb dX9_rule_17 rfl (lv_at hl 2 rfl) ?_
      refine lv_i2l (v := (Int32.toInt64 a2)) hx hb dX9_rule_18 rfl ?_
      obtain ⟨r_3, h_3, h⟩ := bd_el h
      refine cl_i (rn_S X hP (c_X9_isCell h_3) k_642 k_643 k_9 k_644 hd_X9_isCell (n := 1) ⟨⟨rfl, rfl⟩, Nat.le_of_ble_eq_true rfl, Nat.le_of_ble_eq_true rfl⟩ (As := [.long (Int32.toInt64 a2)]) (rest := []) rfl hl.1 rfl (Nat.le_of_ble_eq_true rfl) dX9_rule_19 ⟨Nat.zero_le _, Nat.zero_le _⟩) hS (fun H locs hP hS => ?_)
      refine lv_if_eq (tgt := 57) hx hb dX9_rule_22 (by decide) (fun hc => ?_) (fun hc => ?_)
      · replace h := if_elp h hc
        exact w_X9_rule_57 X hP hS (lv_sub hl [0, 1, 2, 3, 4] rfl) h
      · replace h := if_eln h hc
        refine lv_goto (tgt := 40) hx hb dX9_rule_25 (by decide) ?_
        exact w_X9_rule_40 X hP hS (lv_sub hl [0, 1, 2, 3, 4] rfl) h
abbrev rmX9_look : Room := { frames := 0, cells := 0, slots := 0, locals := 0 }
def f_X9_look (M : Mem) (a1 : Int32) : Option (Mem) :=
  lt ((40 * (gI M 119 46)) + a1) fun v_1 => gd (inR v_1 160) <| if (bI (gB M 163 v_1.toNatClampNeg)) = 0 then (gd (inR v_1 160) <| lt (sB M 168 v_1.toNatClampNeg (iB 1)) fun M_1 => gd (inR a1 40) <| gd (inR v_1 160) <| lt (sI M_1 169 v_1.toNatClampNeg (gI M_1 124 a1.toNatClampNeg)) fun M_2 => some M_2) else (some M)
set_option maxRecDepth 100000 in
set_option maxHeartbeats 4000000 in
theorem c_X9_look {l : Launch} {G : va_G} {cy : Nat → ClassId} {B nT : Nat} {M : Mem} {a1 : Int32} {out : Mem} (h : f_X9_look M a1 = some out) : Met l yX9_look (wsU yX9_look cX9_look 3 none) rmX9_look (va_Pc [.ref (B + 119), .int a1] (PU G B cy nT M)) (Qv G B cy nT out) 0 0 (FB B) := by
  refine r_met (by decide +kernel) RX9 rfl (Nat.le_of_ble_eq_true rfl) ?_
  intro p e s m args below meth c ls X hP hl
  have hl : lv_has ls 3 [(0, .ref (B + 119)), (1, .int a1)] := hl
  have hS : va_S (FB B) s.heap s.heap [] := va_S.rf
  obtain ⟨hx, hb, hr, hml, hown, hts, hKn, hlk⟩ := id X
  unfold f_X9_look at h
  refine lv_bipush (v := 40) hx hb dX9_look_0 (by decide) ?_
  refine lv_aload_n hx hb dX9_look_2 rfl (lv_at hl 0 rfl) ?_
  refine gf_X9_267 X hP dX9_look_3 ?_
  refine lv_imul hx hb dX9_look_6 ?_
  refine lv_iload_n hx hb dX9_look_7 rfl (lv_at hl 1 rfl) ?_
  refine lv_iadd hx hb dX9_look_8 ?_
  obtain ⟨v_1, e_1, h⟩ := lt_el h
  refine r_topi e_1 ?_
  refine lv_istore_n (lv' := [(2, .int v_1), (0, .ref (B + 119)), (1, .int a1)]) hx hb dX9_look_9 rfl hl (by decide) rfl (fun ls hl => ?_)
  refine lv_aload_n hx hb dX9_look_10 rfl (lv_at hl 1 rfl) ?_
  refine gf_X9_145 X hP dX9_look_11 ?_
  refine lv_iload_n hx hb dX9_look_14 rfl (lv_at hl 0 rfl) ?_
  obtain ⟨g_1, h⟩ := gd_el h
  refine r_zald X hP kq_163 g_1 dX9_look_15 ?_
  refine lv_if_ne (tgt := 38) hx hb dX9_look_16 (by decide) (fun hc => ?_) (fun hc => ?_)
  · replace h := if_eln h hc
    exact r_vret X hP hS (pr0 h) dX9_look_38
  · replace h := if_elp h hc
    refine lv_aload_n hx hb dX9_look_19 rfl (lv_at hl 1 rfl) ?_
    refine gf_X9_160 X hP dX9_look_20 ?_
    refine lv_iload_n hx hb dX9_look_23 rfl (lv_at hl 0 rfl) ?_
    refine lv_iconst (v := 1) hx hb dX9_look_24 (by decide) ?_
    obtain ⟨g_2, h⟩ := gd_el h
    obtain ⟨M_1, e_2, h⟩ := lt_el h
    refine r_zast X hP hS kq_168 g_2 e_2 dX9_look_25 (fun H locs hP hS => ?_)
    refine lv_aload_n hx hb dX9_look_26 rfl (lv_at hl 1 rfl) ?_
    refine gf_X9_163 X hP dX9_look_27 ?_
    refine lv_iload_n hx hb dX9_look_30 rfl (lv_at hl 0 rfl) ?_
    refine lv_aload_n hx hb dX9_look_31 rfl (lv_at hl 1 rfl) ?_
    refine gf_X9_23 X hP dX9_look_32 ?_
    refine lv_iload_n hx hb dX9_look_35 rfl (lv_at hl 2 rfl) ?_
    obtain ⟨g_3, h⟩ := gd_el h
    refine r_iald X hP kq_124 g_3 dX9_look_36 ?_
    obtain ⟨g_4, h⟩ := gd_el h
    obtain ⟨M_2, e_3, h⟩ := lt_el h
    refine r_iast X hP hS kq_169 g_4 e_3 dX9_look_37 (fun H locs hP hS => ?_)
    exact r_vret X hP hS (pr0 h) dX9_look_38
end METHS

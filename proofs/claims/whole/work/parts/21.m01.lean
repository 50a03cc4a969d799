section METHS
variable {p : Program} {l : Launch} {e : Env} {s : State} {m : MethodId} {args : Array Value} {below : List Frame} {meth : Method} {c : Code} {H : Heap} {locs : List Loc} {G : va_G} {cy : Nat → ClassId} {B nT : Nat} {ls : Array Slot}
abbrev rmX0_swap : Room := { frames := 1, cells := 0, slots := 0, locals := 26 }
def f_X0_swap (q : Nat) (M : Mem) (a1 : Int32) (a2 : Int32) : Option (Int32 × Mem) :=
  lt ((1 <<< (Int32.toInt64 a1 &&& 63)) ||| (1 <<< (Int32.toInt64 a2 &&& 63))) fun v_1 => lt (sL M q 7 ((gL M q 7) ||| (v_1 &&& ((gL M q 8) ^^^ (-1))))) fun M_1 => gd (inR a1 40) <| lt (gI M_1 (q + 1 + 1) a1.toNatClampNeg) fun v_2 => gd (inR a1 40) <| lt (gL M_1 (q + 1 + 2) a1.toNatClampNeg) fun v_3 => gd (inR a1 40) <| lt (gI M_1 (q + 1 + 3) a1.toNatClampNeg) fun v_4 => gd (inR a1 40) <| lt (gI M_1 (q + 1 + 4) a1.toNatClampNeg) fun v_5 => gd (inR a2 40) <| gd (inR a2 40) <| gd (inR a2 40) <| gd (inR a2 40) <| Option.bind (f_X1_put (q + 1) M_1 a1 (gI M_1 (q + 1 + 1) a2.toNatClampNeg) (gL M_1 (q + 1 + 2) a2.toNatClampNeg) (gI M_1 (q + 1 + 3) a2.toNatClampNeg) (gI M_1 (q + 1 + 4) a2.toNatClampNeg)) fun r_1 => Option.bind (f_X1_put (q + 1) r_1 a2 v_2 v_3 v_4 v_5) fun r_2 => lt (sL r_2 q 8 ((gL r_2 q 8) ||| v_1)) fun M_2 => some (0, M_2)
set_option maxRecDepth 100000 in
set_option maxHeartbeats 4000000 in
theorem c_X0_swap {l : Launch} {G : va_G} {cy : Nat → ClassId} {B nT : Nat} {q : Nat} (hq : isA q) {M : Mem} {a1 : Int32} {a2 : Int32} {out : Int32 × Mem} (h : f_X0_swap q M a1 a2 = some out) : Met l yX0_swap (wsU yX0_swap cX0_swap 10 (some .int)) rmX0_swap (va_Pc [.ref (B + q), .int a1, .int a2] (PU G B cy nT M)) (Qi G B cy nT out.1 out.2) 0 0 (FB B) := by
  refine r_met (by decide +kernel) RX0 rfl (Nat.le_of_ble_eq_true rfl) ?_
  intro p e s m args below meth c ls X hP hl
  have hl : lv_has ls 10 [(0, .ref (B + q)), (1, .int a1), (2, .int a2)] := hl
  have hS : va_S (FB B) s.heap s.heap [] := va_S.rf
  obtain ⟨hx, hb, hr, hml, hown, hts, hKn, hlk⟩ := id X
  unfold f_X0_swap at h
  refine lv_lconst (v := 1) hx hb dX0_swap_0 rfl ?_
  refine lv_iload_n hx hb dX0_swap_1 rfl (lv_at hl 1 rfl) ?_
  refine lv_lshl (v := (1 <<< (Int32.toInt64 a1 &&& 63))) hx hb dX0_swap_2 rfl ?_
  refine lv_lconst (v := 1) hx hb dX0_swap_3 rfl ?_
  refine lv_iload_n hx hb dX0_swap_4 rfl (lv_at hl 2 rfl) ?_
  refine lv_lshl (v := (1 <<< (Int32.toInt64 a2 &&& 63))) hx hb dX0_swap_5 rfl ?_
  refine lv_lor hx hb dX0_swap_6 ?_
  obtain ⟨v_1, e_1, h⟩ := lt_el h
  refine r_topl e_1 ?_
  refine lv_lstore_n (lv' := [(3, .long v_1), (0, .ref (B + q)), (1, .int a1), (2, .int a2)]) hx hb dX0_swap_7 rfl hl (by decide) rfl (fun ls hl => ?_)
  refine lv_aload_n hx hb dX0_swap_8 rfl (lv_at hl 1 rfl) ?_
  refine lv_dup hx hb dX0_swap_9 rfl ?_
  refine gf_X0_64 X hP (kA_0 hq) dX0_swap_10 ?_
  refine lv_lload_n hx hb dX0_swap_13 rfl (lv_at hl 0 rfl) ?_
  refine lv_aload_n hx hb dX0_swap_14 rfl (lv_at hl 1 rfl) ?_
  refine gf_X0_67 X hP (kA_0 hq) dX0_swap_15 ?_
  refine lv_ldc2 (v := (-1)) hx hb hown (hts _ k_385) dX0_swap_18 ?_
  refine lv_lxor hx hb dX0_swap_21 ?_
  refine lv_land hx hb dX0_swap_22 ?_
  refine lv_lor hx hb dX0_swap_23 ?_
  obtain ⟨M_1, e_2, h⟩ := lt_el h
  refine pf_X0_64 X hP hS (kA_0 hq) e_2 dX0_swap_24 (fun H locs hP hS => ?_)
  refine lv_aload_n hx hb dX0_swap_27 rfl (lv_at hl 1 rfl) ?_
  refine gf_X0_12 X hP (kA_0 hq) dX0_swap_28 ?_
  refine gf_X0_169 X hP (kC_0 (kA_own hq)) dX0_swap_31 ?_
  refine lv_iload_n hx hb dX0_swap_34 rfl (lv_at hl 2 rfl) ?_
  obtain ⟨g_1, h⟩ := gd_el h
  refine r_iald X hP (kC_1 (kA_own hq)) g_1 dX0_swap_35 ?_
  obtain ⟨v_2, e_3, h⟩ := lt_el h
  refine r_topi e_3 ?_
  refine lv_istore (lv' := [(5, .int v_2), (3, .long v_1), (0, .ref (B + q)), (1, .int a1), (2, .int a2)]) hx hb dX0_swap_36 hl (by decide) rfl (fun ls hl => ?_)
  refine lv_aload_n hx hb dX0_swap_38 rfl (lv_at hl 2 rfl) ?_
  refine gf_X0_12 X hP (kA_0 hq) dX0_swap_39 ?_
  refine gf_X0_175 X hP (kC_0 (kA_own hq)) dX0_swap_42 ?_
  refine lv_iload_n hx hb dX0_swap_45 rfl (lv_at hl 3 rfl) ?_
  obtain ⟨g_2, h⟩ := gd_el h
  refine r_lald X hP (kC_2 (kA_own hq)) g_2 dX0_swap_46 ?_
  obtain ⟨v_3, e_4, h⟩ := lt_el h
  refine r_topl e_4 ?_
  refine lv_lstore (lv' := [(6, .long v_3), (5, .int v_2), (3, .long v_1), (0, .ref (B + q)), (1, .int a1), (2, .int a2)]) hx hb dX0_swap_47 hl (by decide) rfl (fun ls hl => ?_)
  refine lv_aload_n hx hb dX0_swap_49 rfl (lv_at hl 3 rfl) ?_
  refine gf_X0_12 X hP (kA_0 hq) dX0_swap_50 ?_
  refine gf_X0_186 X hP (kC_0 (kA_own hq)) dX0_swap_53 ?_
  refine lv_iload_n hx hb dX0_swap_56 rfl (lv_at hl 4 rfl) ?_
  obtain ⟨g_3, h⟩ := gd_el h
  refine r_iald X hP (kC_3 (kA_own hq)) g_3 dX0_swap_57 ?_
  obtain ⟨v_4, e_5, h⟩ := lt_el h
  refine r_topi e_5 ?_
  refine lv_istore (lv' := [(8, .int v_4), (6, .long v_3), (5, .int v_2), (3, .long v_1), (0, .ref (B + q)), (1, .int a1), (2, .int a2)]) hx hb dX0_swap_58 hl (by decide) rfl (fun ls hl => ?_)
  refine lv_aload_n hx hb dX0_swap_60 rfl (lv_at hl 4 rfl) ?_
  refine gf_X0_12 X hP (kA_0 hq) dX0_swap_61 ?_
  refine gf_X0_191 X hP (kC_0 (kA_own hq)) dX0_swap_64 ?_
  refine lv_iload_n hx hb dX0_swap_67 rfl (lv_at hl 5 rfl) ?_
  obtain ⟨g_4, h⟩ := gd_el h
  refine r_iald X hP (kC_4 (kA_own hq)) g_4 dX0_swap_68 ?_
  obtain ⟨v_5, e_6, h⟩ := lt_el h
  refine r_topi e_6 ?_
  refine lv_istore (lv' := [(9, .int v_5), (8, .int v_4), (6, .long v_3), (5, .int v_2), (3, .long v_1), (0, .ref (B + q)), (1, .int a1), (2, .int a2)]) hx hb dX0_swap_69 hl (by decide) rfl (fun ls hl => ?_)
  refine lv_aload_n hx hb dX0_swap_71 rfl (lv_at hl 5 rfl) ?_
  refine gf_X0_12 X hP (kA_0 hq) dX0_swap_72 ?_
  refine lv_iload_n hx hb dX0_swap_75 rfl (lv_at hl 6 rfl) ?_
  refine lv_aload_n hx hb dX0_swap_76 rfl (lv_at hl 5 rfl) ?_
  refine gf_X0_12 X hP (kA_0 hq) dX0_swap_77 ?_
  refine gf_X0_169 X hP (kC_0 (kA_own hq)) dX0_swap_80 ?_
  refine lv_iload_n hx hb dX0_swap_83 rfl (lv_at hl 7 rfl) ?_
  obtain ⟨g_5, h⟩ := gd_el h
  refine r_iald X hP (kC_1 (kA_own hq)) g_5 dX0_swap_84 ?_
  refine lv_aload_n hx hb dX0_swap_85 rfl (lv_at hl 5 rfl) ?_
  refine gf_X0_12 X hP (kA_0 hq) dX0_swap_86 ?_
  refine gf_X0_175 X hP (kC_0 (kA_own hq)) dX0_swap_89 ?_
  refine lv_iload_n hx hb dX0_swap_92 rfl (lv_at hl 7 rfl) ?_
  obtain ⟨g_6, h⟩ := gd_el h
  refine r_lald X hP (kC_2 (kA_own hq)) g_6 dX0_swap_93 ?_
  refine lv_aload_n hx hb dX0_swap_94 rfl (lv_at hl 5 rfl) ?_
  refine gf_X0_12 X hP (kA_0 hq) dX0_swap_95 ?_
  refine gf_X0_186 X hP (kC_0 (kA_own hq)) dX0_swap_98 ?_
  refine lv_iload_n hx hb dX0_swap_101 rfl (lv_at hl 7 rfl) ?_
  obtain ⟨g_7, h⟩ := gd_el h
  refine r_iald X hP (kC_3 (kA_own hq)) g_7 dX0_swap_102 ?_
  refine lv_aload_n hx hb dX0_swap_103 rfl (lv_at hl 5 rfl) ?_
  refine gf_X0_12 X hP (kA_0 hq) dX0_swap_104 ?_
  refine gf_X0_191 X hP (kC_0 (kA_own hq)) dX0_swap_107 ?_
  refine lv_iload_n hx hb dX0_swap_110 rfl (lv_at hl 7 rfl) ?_
  obtain ⟨g_8, h⟩ := gd_el h
  refine r_iald X hP (kC_4 (kA_own hq)) g_8 dX0_swap_111 ?_
  obtain ⟨r_1, h_1, h⟩ := bd_el h
  refine cl_v (rn_V (C := RX1) (ci := 1) X hP (c_X1_put (kA_own hq) h_1) (kC_0 (kA_own hq)) rfl k_397 k_191 k_192 k_3 k_193 rfl hd_X1_put (n := 5) ⟨⟨rfl, rfl⟩, Nat.le_of_ble_eq_true rfl, Nat.le_of_ble_eq_true rfl⟩ (As := [.int a1, .int (gI M_1 (q + 1 + 1) a2.toNatClampNeg), .long (gL M_1 (q + 1 + 2) a2.toNatClampNeg), .int (gI M_1 (q + 1 + 3) a2.toNatClampNeg), .int (gI M_1 (q + 1 + 4) a2.toNatClampNeg)]) (rest := []) rfl hl.1 rfl (Nat.le_of_ble_eq_true rfl) dX0_swap_112 ⟨Nat.zero_le _, Nat.zero_le _⟩) hS (fun H locs hP hS => ?_)
  refine lv_aload_n hx hb dX0_swap_115 rfl (lv_at hl 5 rfl) ?_
  refine gf_X0_12 X hP (kA_0 hq) dX0_swap_116 ?_
  refine lv_iload_n hx hb dX0_swap_119 rfl (lv_at hl 7 rfl) ?_
  refine lv_iload hx hb dX0_swap_120 (lv_at hl 3 rfl) ?_
  refine lv_lload hx hb dX0_swap_122 (lv_at hl 2 rfl) ?_
  refine lv_iload hx hb dX0_swap_124 (lv_at hl 1 rfl) ?_
  refine lv_iload hx hb dX0_swap_126 (lv_at hl 0 rfl) ?_
  obtain ⟨r_2, h_2, h⟩ := bd_el h
  refine cl_v (rn_V (C := RX1) (ci := 1) X hP (c_X1_put (kA_own hq) h_2) (kC_0 (kA_own hq)) rfl k_397 k_191 k_192 k_3 k_193 rfl hd_X1_put (n := 5) ⟨⟨rfl, rfl⟩, Nat.le_of_ble_eq_true rfl, Nat.le_of_ble_eq_true rfl⟩ (As := [.int a2, .int v_2, .long v_3, .int v_4, .int v_5]) (rest := []) rfl hl.1 rfl (Nat.le_of_ble_eq_true rfl) dX0_swap_128 ⟨Nat.zero_le _, Nat.zero_le _⟩) hS (fun H locs hP hS => ?_)
  refine lv_aload_n hx hb dX0_swap_131 rfl (lv_at hl 5 rfl) ?_
  refine lv_dup hx hb dX0_swap_132 rfl ?_
  refine gf_X0_67 X hP (kA_0 hq) dX0_swap_133 ?_
  refine lv_lload_n hx hb dX0_swap_136 rfl (lv_at hl 4 rfl) ?_
  refine lv_lor hx hb dX0_swap_137 ?_
  obtain ⟨M_2, e_7, h⟩ := lt_el h
  refine pf_X0_67 X hP hS (kA_0 hq) e_7 dX0_swap_138 (fun H locs hP hS => ?_)
  refine lv_iconst (v := 0) hx hb dX0_swap_141 (by decide) ?_
  exact r_iret X hP hS (pr1 h) (pr2 h) dX0_swap_142
abbrev rmX0_say : Room := { frames := 0, cells := 0, slots := 0, locals := 0 }
def f_X0_say (q : Nat) (M : Mem) : Option (Int32 × Mem) :=
  if 8 ≤ (gI M q 13) then (some (0, M)) else (gd (inR (gI M q 13) 8) <| lt (sL M (q + 8) (gI M q 13).toNatClampNeg (gL M q 6)) fun M_1 => lt (sI M_1 q 13 ((gI M_1 q 13) + 1)) fun M_2 => some (0, M_2))
set_option maxRecDepth 100000 in
set_option maxHeartbeats 4000000 in
theorem c_X0_say {l : Launch} {G : va_G} {cy : Nat → ClassId} {B nT : Nat} {q : Nat} (hq : isA q) {M : Mem} {out : Int32 × Mem} (h : f_X0_say q M = some out) : Met l yX0_say (wsU yX0_say cX0_say 1 (some .int)) rmX0_say (va_Pc [.ref (B + q)] (PU G B cy nT M)) (Qi G B cy nT out.1 out.2) 0 0 (FB B) := by
  refine r_met (by decide +kernel) RX0 rfl (Nat.le_of_ble_eq_true rfl) ?_
  intro p e s m args below meth c ls X hP hl
  have hl : lv_has ls 1 [(0, .ref (B + q))] := hl
  have hS : va_S (FB B) s.heap s.heap [] := va_S.rf
  obtain ⟨hx, hb, hr, hml, hown, hts, hKn, hlk⟩ := id X
  unfold f_X0_say at h
  refine lv_aload_n hx hb dX0_say_0 rfl (lv_at hl 0 rfl) ?_
  refine gf_X0_76 X hP (kA_0 hq) dX0_say_1 ?_
  refine lv_bipush (v := 8) hx hb dX0_say_4 (by decide) ?_
  refine lv_icmp_ge (tgt := 32) hx hb dX0_say_6 (by decide) (fun hc => ?_) (fun hc => ?_)
  · replace h := if_elp h hc
    refine lv_iconst (v := 0) hx hb dX0_say_32 (by decide) ?_
    exact r_iret X hP hS (pr1 h) (pr2 h) dX0_say_33
  · replace h := if_eln h hc
    refine lv_aload_n hx hb dX0_say_9 rfl (lv_at hl 0 rfl) ?_
    refine gf_X0_29 X hP (kA_0 hq) dX0_say_10 ?_
    refine lv_aload_n hx hb dX0_say_13 rfl (lv_at hl 0 rfl) ?_
    refine gf_X0_76 X hP (kA_0 hq) dX0_say_14 ?_
    refine lv_aload_n hx hb dX0_say_17 rfl (lv_at hl 0 rfl) ?_
    refine gf_X0_60 X hP (kA_0 hq) dX0_say_18 ?_
    obtain ⟨g_1, h⟩ := gd_el h
    obtain ⟨M_1, e_1, h⟩ := lt_el h
    refine r_last X hP hS (kA_8 hq) g_1 e_1 dX0_say_21 (fun H locs hP hS => ?_)
    refine lv_aload_n hx hb dX0_say_22 rfl (lv_at hl 0 rfl) ?_
    refine lv_dup hx hb dX0_say_23 rfl ?_
    refine gf_X0_76 X hP (kA_0 hq) dX0_say_24 ?_
    refine lv_iconst (v := 1) hx hb dX0_say_27 (by decide) ?_
    refine lv_iadd hx hb dX0_say_28 ?_
    obtain ⟨M_2, e_2, h⟩ := lt_el h
    refine pf_X0_76 X hP hS (kA_0 hq) e_2 dX0_say_29 (fun H locs hP hS => ?_)
    refine lv_iconst (v := 0) hx hb dX0_say_32 (by decide) ?_
    exact r_iret X hP hS (pr1 h) (pr2 h) dX0_say_33
abbrev rmX0_fail : Room := { frames := 0, cells := 0, slots := 0, locals := 0 }
def f_X0_fail (q : Nat) (M : Mem) (a1 : Int32) : Option (Int32 × Mem) :=
  lt (sI M q 9 a1) fun M_1 => some (8, M_1)
set_option maxRecDepth 100000 in
set_option maxHeartbeats 4000000 in
theorem c_X0_fail {l : Launch} {G : va_G} {cy : Nat → ClassId} {B nT : Nat} {q : Nat} (hq : isA q) {M : Mem} {a1 : Int32} {out : Int32 × Mem} (h : f_X0_fail q M a1 = some out) : Met l yX0_fail (wsU yX0_fail cX0_fail 2 (some .int)) rmX0_fail (va_Pc [.ref (B + q), .int a1] (PU G B cy nT M)) (Qi G B cy nT out.1 out.2) 0 0 (FB B) := by
  refine r_met (by decide +kernel) RX0 rfl (Nat.le_of_ble_eq_true rfl) ?_
  intro p e s m args below meth c ls X hP hl
  have hl : lv_has ls 2 [(0, .ref (B + q)), (1, .int a1)] := hl
  have hS : va_S (FB B) s.heap s.heap [] := va_S.rf
  obtain ⟨hx, hb, hr, hml, hown, hts, hKn, hlk⟩ := id X
  unfold f_X0_fail at h
  refine lv_aload_n hx hb dX0_fail_0 rfl (lv_at hl 0 rfl) ?_
  refine lv_iload_n hx hb dX0_fail_1 rfl (lv_at hl 1 rfl) ?_
  obtain ⟨M_1, e_1, h⟩ := lt_el h
  refine pf_X0_70 X hP hS (kA_0 hq) e_1 dX0_fail_2 (fun H locs hP hS => ?_)
  refine lv_bipush (v := 8) hx hb dX0_fail_5 (by decide) ?_
  exact r_iret X hP hS (pr1 h) (pr2 h) dX0_fail_7
abbrev rmX0_putOff : Room := { frames := 0, cells := 0, slots := 0, locals := 0 }
def f_X0_putOff (q : Nat) (M : Mem) (a1 : Int32) (a2 : Int32) : Option (Int32 × Mem) :=
  if 40 ≤ (gI M q 15) then (some (0, M)) else (gd (inR (gI M q 15) 40) <| lt (sI M (q + 9) (gI M q 15).toNatClampNeg a1) fun M_1 => gd (inR (gI M_1 q 15) 40) <| lt (sI M_1 (q + 10) (gI M_1 q 15).toNatClampNeg a2) fun M_2 => gd (inR (gI M_2 q 15) 40) <| lt (sL M_2 (q + 11) (gI M_2 q 15).toNatClampNeg (gL M_2 q 6)) fun M_3 => lt (sI M_3 q 15 ((gI M_3 q 15) + 1)) fun M_4 => some (0, M_4))
set_option maxRecDepth 100000 in
set_option maxHeartbeats 4000000 in
theorem c_X0_putOff {l : Launch} {G : va_G} {cy : Nat → ClassId} {B nT : Nat} {q : Nat} (hq : isA q) {M : Mem} {a1 : Int32} {a2 : Int32} {out : Int32 × Mem} (h : f_X0_putOff q M a1 a2 = some out) : Met l yX0_putOff (wsU yX0_putOff cX0_putOff 3 (some .int)) rmX0_putOff (va_Pc [.ref (B + q), .int a1, .int a2] (PU G B cy nT M)) (Qi G B cy nT out.1 out.2) 0 0 (FB B) := by
  refine r_met (by decide +kernel) RX0 rfl (Nat.le_of_ble_eq_true rfl) ?_
  intro p e s m args below meth c ls X hP hl
  have hl : lv_has ls 3 [(0, .ref (B + q)), (1, .int a1), (2, .int a2)] := hl
  have hS : va_S (FB B) s.heap s.heap [] := va_S.rf
  obtain ⟨hx, hb, hr, hml, hown, hts, hKn, hlk⟩ := id X
  unfold f_X0_putOff at h
  refine lv_aload_n hx hb dX0_putOff_0 rfl (lv_at hl 0 rfl) ?_
  refine gf_X0_79 X hP (kA_0 hq) dX0_putOff_1 ?_
  refine lv_bipush (v := 40) hx hb dX0_putOff_4 (by decide) ?_
  refine lv_icmp_ge (tgt := 52) hx hb dX0_putOff_6 (by decide) (fun hc => ?_) (fun hc => ?_)
  · replace h := if_elp h hc
    refine lv_iconst (v := 0) hx hb dX0_putOff_52 (by decide) ?_
    exact r_iret X hP hS (pr1 h) (pr2 h) dX0_putOff_53
  · replace h := if_eln h hc
    refine lv_aload_n hx hb dX0_putOff_9 rfl (lv_at hl 0 rfl) ?_
    refine gf_X0_33 X hP (kA_0 hq) dX0_putOff_10 ?_
    refine lv_aload_n hx hb dX0_putOff_13 rfl (lv_at hl 0 rfl) ?_
    refine gf_X0_79 X hP (kA_0 hq) dX0_putOff_14 ?_
    refine lv_iload_n hx hb dX0_putOff_17 rfl (lv_at hl 1 rfl) ?_
    obtain ⟨g_1, h⟩ := gd_el h
    obtain ⟨M_1, e_1, h⟩ := lt_el h
    refine r_iast X hP hS (kA_9 hq) g_1 e_1 dX0_putOff_18 (fun H locs hP hS => ?_)
    refine lv_aload_n hx hb dX0_putOff_19 rfl (lv_at hl 0 rfl) ?_
    refine gf_X0_36 X hP (kA_0 hq) dX0_putOff_20 ?_
    refine lv_aload_n hx hb dX0_putOff_23 rfl (lv_at hl 0 rfl) ?_
    refine gf_X0_79 X hP (kA_0 hq) dX0_putOff_24 ?_
    refine lv_iload_n hx hb dX0_putOff_27 rfl (lv_at hl 2 rfl) ?_
    obtain ⟨g_2, h⟩ := gd_el h
    obtain ⟨M_2, e_2, h⟩ := lt_el h
    refine r_iast X hP hS (kA_10 hq) g_2 e_2 dX0_putOff_28 (fun H locs hP hS => ?_)
    refine lv_aload_n hx hb dX0_putOff_29 rfl (lv_at hl 0 rfl) ?_
    refine gf_X0_39 X hP (kA_0 hq) dX0_putOff_30 ?_
    refine lv_aload_n hx hb dX0_putOff_33 rfl (lv_at hl 0 rfl) ?_
    refine gf_X0_79 X hP (kA_0 hq) dX0_putOff_34 ?_
    refine lv_aload_n hx hb dX0_putOff_37 rfl (lv_at hl 0 rfl) ?_
    refine gf_X0_60 X hP (kA_0 hq) dX0_putOff_38 ?_
    obtain ⟨g_3, h⟩ := gd_el h
    obtain ⟨M_3, e_3, h⟩ := lt_el h
    refine r_last X hP hS (kA_11 hq) g_3 e_3 dX0_putOff_41 (fun H locs hP hS => ?_)
    refine lv_aload_n hx hb dX0_putOff_42 rfl (lv_at hl 0 rfl) ?_
    refine lv_dup hx hb dX0_putOff_43 rfl ?_
    refine gf_X0_79 X hP (kA_0 hq) dX0_putOff_44 ?_
    refine lv_iconst (v := 1) hx hb dX0_putOff_47 (by decide) ?_
    refine lv_iadd hx hb dX0_putOff_48 ?_
    obtain ⟨M_4, e_4, h⟩ := lt_el h
    refine pf_X0_79 X hP hS (kA_0 hq) e_4 dX0_putOff_49 (fun H locs hP hS => ?_)
    refine lv_iconst (v := 0) hx hb dX0_putOff_52 (by decide) ?_
    exact r_iret X hP hS (pr1 h) (pr2 h) dX0_putOff_53
abbrev rmX0_doStep : Room := { frames := 2, cells := 0, slots := 0, locals := 55 }
def f_X0_doStep (q : Nat) (M : Mem) (a1 : Int32) (a2 : Int32) (a3 : Int32) : Option (Int32 × Mem) :=
  if a1 = 0 then (lt (sL M q 6 (Int32.toInt64 a2)) fun M_1 => some (0, M_1)) else if a1 = 1 then (Option.bind (f_X0_reckon q M a1 a2) fun r_1 => some (r_1.1, r_1.2)) else if a1 = 2 then (Option.bind (f_X0_write q M a2) fun r_2 => some (r_2.1, r_2.2)) else if a1 = 3 then (Option.bind (f_X0_reckon q M a1 a2) fun r_3 => some (r_3.1, r_3.2)) else if a1 = 4 then (Option.bind (f_X0_add q M (Int32.toInt64 a2)) fun r_4 => some (r_4.1, r_4.2)) else if a1 = 5 then (Option.bind (f_X0_multiply q M a2) fun r_5 => some (r_5.1, r_5.2)) else if a1 = 6 then (Option.bind (f_X0_reckon q M a1 a2) fun r_6 => some (r_6.1, r_6.2)) else if a1 = 7 then (Option.bind (f_X8_isCell (gL M q 6)) fun r_7 => if (bI r_7) = 0 then (some (2, M)) else (Option.bind (f_X0_reckon q M 1 (Int64.toInt32 (gL M q 6))) fun r_8 => some (r_8.1, r_8.2))) else if a1 = 8 then (Option.bind (f_X0_reckon q M a1 a2) fun r_9 => some (r_9.1, r_9.2)) else if a1 = 9 then (Option.bind (f_X0_weigh q M a2) fun r_10 => some (r_10.1, r_10.2)) else if a1 = 10 then (Option.bind (f_X0_give q M a2 a3) fun r_11 => some (r_11.1, r_11.2)) else if a1 = 11 then (Option.bind (f_X0_swap q M a2 a3) fun r_12 => some (r_12.1, r_12.2)) else if a1 = 12 then (Option.bind (f_X0_say q M) fun r_13 => some (r_13.1, r_13.2)) else if a1 = 13 then (some (0, M)) else if a1 = 14 then (Option.bind (f_X0_fail q M a2) fun r_14 => some (r_14.1, r_14.2)) else if a1 = 15 then (some (11, M)) else if a1 = 16 then (some (0, M)) else if a1 = 17 then (some (0, M)) else if a1 = 18 then (some (0, M)) else if a1 = 19 then (Option.bind (f_X0_putOff q M a2 a3) fun r_15 => some (r_15.1, r_15.2)) else some (0, M)
set_option maxRecDepth 100000 in
set_option maxHeartbeats 4000000 in
theorem c_X0_doStep {l : Launch} {G : va_G} {cy : Nat → ClassId} {B nT : Nat} {q : Nat} (hq : isA q) {M : Mem} {a1 : Int32} {a2 : Int32} {a3 : Int32} {out : Int32 × Mem} (h : f_X0_doStep q M a1 a2 a3 = some out) : Met l yX0_doStep (wsU yX0_doStep cX0_doStep 4 (some .int)) rmX0_doStep (va_Pc [.ref (B + q), .int a1, .int a2, .int a3] (PU G B cy nT M)) (Qi G B cy nT out.1 out.2) 0 0 (FB B) := by
  refine r_met (by decide +kernel) RX0 rfl (Nat.le_of_ble_eq_true rfl) ?_
  intro p e s m args below meth c ls X hP hl
  have hl : lv_has ls 4 [(0, .ref (B + q)), (1, .int a1), (2, .int a2), (3, .int a3)] := hl
  have hS : va_S (FB B) s.heap s.heap [] := va_S.rf
  obtain ⟨hx, hb, hr, hml, hown, hts, hKn, hlk⟩ := id X
  unfold f_X0_doStep at h
  refine lv_iload_n hx hb dX0_doStep_0 rfl (lv_at hl 1 rfl) ?_
  by_cases h_1 : a1 = 0
  · replace h := if_elp h h_1
    refine lv_tableIn (off := 95) (tgt := 96) hx hb dX0_doStep_1 (by rw [h_1]; decide) (by rw [h_1]; decide) (by rw [h_1]; rfl) (by decide) ?_
    refine lv_aload_n hx hb dX0_doStep_96 rfl (lv_at hl 0 rfl) ?_
    refine lv_iload_n hx hb dX0_doStep_97 rfl (lv_at hl 2 rfl) ?_
    refine lv_i2l (v := (Int32.toInt64 a2)) hx hb dX0_doStep_98 rfl ?_
    obtain ⟨M_1, e_1, h⟩ := lt_el h
    refine pf_X0_60 X hP hS (kA_0 hq) e_1 dX0_doStep_99 (fun H locs hP hS => ?_)
    refine lv_iconst (v := 0) hx hb dX0_doStep_102 (by decide) ?_
    exact r_iret X hP hS (pr1 h) (pr2 h) dX0_doStep_103
  · replace h := if_eln h h_1
    by_cases h_2 : a1 = 1
    · replace h := if_elp h h_2
      refine lv_tableIn (off := 103) (tgt := 104) hx hb dX0_doStep_1 (by rw [h_2]; decide) (by rw [h_2]; decide) (by rw [h_2]; rfl) (by decide) ?_
      refine lv_aload_n hx hb dX0_doStep_104 rfl (lv_at hl 0 rfl) ?_
      refine lv_iload_n hx hb dX0_doStep_105 rfl (lv_at hl 1 rfl) ?_
      refine lv_iload_n hx hb dX0_doStep_106 rfl (lv_at hl 2 rfl) ?_
      obtain ⟨r_1, h_3, h⟩ := bd_el h
      refine cl_i (rn_V (C := RX0) (ci := 0) X hP (c_X0_reckon hq h_3) (kA_0 hq) rfl k_379 k_380 k_886 k_8 k_381 rfl hd_X0_reckon (n := 2) ⟨⟨rfl, rfl⟩, Nat.le_of_ble_eq_true rfl, Nat.le_of_ble_eq_true rfl⟩ (As := [.int a1, .int a2]) (rest := []) rfl hl.1 rfl (Nat.le_of_ble_eq_true rfl) dX0_doStep_107 ⟨Nat.zero_le _, Nat.zero_le _⟩) hS (fun H locs hP hS => ?_)
      exact r_iret X hP hS (pr1 h) (pr2 h) dX0_doStep_110
    · replace h := if_eln h h_2
      by_cases h_4 : a1 = 2
      · replace h := if_elp h h_4
        refine lv_tableIn (off := 110) (tgt := 111) hx hb dX0_doStep_1 (by rw [h_4]; decide) (by rw [h_4]; decide) (by rw [h_4]; rfl) (by decide) ?_
        refine lv_aload_n hx hb dX0_doStep_111 rfl (lv_at hl 0 rfl) ?_
        refine lv_iload_n hx hb dX0_doStep_112 rfl (lv_at hl 2 rfl) ?_
        obtain ⟨r_2, h_5, h⟩ := bd_el h
        refine cl_i (rn_V (C := RX0) (ci := 0) X hP (c_X0_write hq h_5) (kA_0 hq) rfl k_394 k_395 k_889 k_8 k_396 rfl hd_X0_write (n := 1) ⟨⟨rfl, rfl⟩, Nat.le_of_ble_eq_true rfl, Nat.le_of_ble_eq_true rfl⟩ (As := [.int a2]) (rest := []) rfl hl.1 rfl (Nat.le_of_ble_eq_true rfl) dX0_doStep_113 ⟨Nat.zero_le _, Nat.zero_le _⟩) hS (fun H locs hP hS => ?_)
        exact r_iret X hP hS (pr1 h) (pr2 h) dX0_doStep_116
      · replace h := if_eln h h_4
        by_cases h_6 : a1 = 3
        · replace h := if_elp h h_6
          refine lv_tableIn (off := 103) (tgt := 104) hx hb dX0_doStep_1 (by rw [h_6]; decide) (by rw [h_6]; decide) (by rw [h_6]; rfl) (by decide) ?_
          refine lv_aload_n hx hb dX0_doStep_104 rfl (lv_at hl 0 rfl) ?_
          refine lv_iload_n hx hb dX0_doStep_105 rfl (lv_at hl 1 rfl) ?_
          refine lv_iload_n hx hb dX0_doStep_106 rfl (lv_at hl 2 rfl) ?_
          obtain ⟨r_3, h_7, h⟩ := bd_el h
          refine cl_i (rn_V (C := RX0) (ci := 0) X hP (c_X0_reckon hq h_7) (kA_0 hq) rfl k_379 k_380 k_886 k_8 k_381 rfl hd_X0_reckon (n := 2) ⟨⟨rfl, rfl⟩, Nat.le_of_ble_eq_true rfl, Nat.le_of_ble_eq_true rfl⟩ (As := [.int a1, .int a2]) (rest := []) rfl hl.1 rfl (Nat.le_of_ble_eq_true rfl) dX0_doStep_107 ⟨Nat.zero_le _, Nat.zero_le _⟩) hS (fun H locs hP hS => ?_)
          exact r_iret X hP hS (pr1 h) (pr2 h) dX0_doStep_110
        · replace h := if_eln h h_6
          by_cases h_8 : a1 = 4
          · replace h := if_elp h h_8
            refine lv_tableIn (off := 116) (tgt := 117) hx hb dX0_doStep_1 (by rw [h_8]; decide) (by rw [h_8]; decide) (by rw [h_8]; rfl) (by decide) ?_
            refine lv_aload_n hx hb dX0_doStep_117 rfl (lv_at hl 0 rfl) ?_
            refine lv_iload_n hx hb dX0_doStep_118 rfl (lv_at hl 2 rfl) ?_
            refine lv_i2l (v := (Int32.toInt64 a2)) hx hb dX0_doStep_119 rfl ?_
            obtain ⟨r_4, h_9, h⟩ := bd_el h
            refine cl_i (rn_V (C := RX0) (ci := 0) X hP (c_X0_add hq h_9) (kA_0 hq) rfl k_386 k_387 k_888 k_8 k_388 rfl hd_X0_add (n := 1) ⟨⟨rfl, rfl⟩, Nat.le_of_ble_eq_true rfl, Nat.le_of_ble_eq_true rfl⟩ (As := [.long (Int32.toInt64 a2)]) (rest := []) rfl hl.1 rfl (Nat.le_of_ble_eq_true rfl) dX0_doStep_120 ⟨Nat.zero_le _, Nat.zero_le _⟩) hS (fun H locs hP hS => ?_)
            exact r_iret X hP hS (pr1 h) (pr2 h) dX0_doStep_123
          · replace h := if_eln h h_8
            by_cases h_10 : a1 = 5
            · replace h := if_elp h h_10
              refine lv_tableIn (off := 123) (tgt := 124) hx hb dX0_doStep_1 (by rw [h_10]; decide) (by rw [h_10]; decide) (by rw [h_10]; rfl) (by decide) ?_
              refine lv_aload_n hx hb dX0_doStep_124 rfl (lv_at hl 0 rfl) ?_
              refine lv_iload_n hx hb dX0_doStep_125 rfl (lv_at hl 2 rfl) ?_
              obtain ⟨r_5, h_11, h⟩ := bd_el h
              refine cl_i (rn_V (C := RX0) (ci := 0) X hP (c_X0_multiply hq h_11) (kA_0 hq) rfl k_398 k_399 k_890 k_8 k_400 rfl hd_X0_multiply (n := 1) ⟨⟨rfl, rfl⟩, Nat.le_of_ble_eq_true rfl, Nat.le_of_ble_eq_true rfl⟩ (As := [.int a2]) (rest := []) rfl hl.1 rfl (Nat.le_of_ble_eq_true rfl) dX0_doStep_126 ⟨Nat.zero_le _, Nat.zero_le _⟩) hS (fun H locs hP hS => ?_)
              exact r_iret X hP hS (pr1 h) (pr2 h) dX0_doStep_129
            · replace h := if_eln h h_10
              by_cases h_12 : a1 = 6
              · replace h := if_elp h h_12
                refine lv_tableIn (off := 103) (tgt := 104) hx hb dX0_doStep_1 (by rw [h_12]; decide) (by rw [h_12]; decide) (by rw [h_12]; rfl) (by decide) ?_
                refine lv_aload_n hx hb dX0_doStep_104 rfl (lv_at hl 0 rfl) ?_
                refine lv_iload_n hx hb dX0_doStep_105 rfl (lv_at hl 1 rfl) ?_
                refine lv_iload_n hx hb dX0_doStep_106 rfl (lv_at hl 2 rfl) ?_
                obtain ⟨r_6, h_13, h⟩ := bd_el h
                refine cl_i (rn_V (C := RX0) (ci := 0) X hP (c_X0_reckon hq h_13) (kA_0 hq) rfl k_379 k_380 k_886 k_8 k_381 rfl hd_X0_reckon (n := 2) ⟨⟨rfl, rfl⟩, Nat.le_of_ble_eq_true rfl, Nat.le_of_ble_eq_true rfl⟩ (As := [.int a1, .int a2]) (rest := []) rfl hl.1 rfl (Nat.le_of_ble_eq_true rfl) dX0_doStep_107 ⟨Nat.zero_le _, Nat.zero_le _⟩) hS (fun H locs hP hS => ?_)
                exact r_iret X hP hS (pr1 h) (pr2 h) dX0_doStep_110
              · replace h := if_eln h h_12
                by_cases h_14 : a1 = 7
                · replace h := if_elp h h_14
                  refine lv_tableIn (off := 129) (tgt := 130) hx hb dX0_doStep_1 (by rw [h_14]; decide) (by rw [h_14]; decide) (by rw [h_14]; rfl) (by decide) ?_
                  refine lv_aload_n hx hb dX0_doStep_130 rfl (lv_at hl 0 rfl) ?_
                  refine gf_X0_60 X hP (kA_0 hq) dX0_doStep_131 ?_
                  obtain ⟨r_7, h_15, h⟩ := bd_el h
                  refine cl_i (rn_SN X hP (c_X8_isCell h_15) nst_X0_140 k_187 k_1 k_188 hd_X8_isCell (n := 1) ⟨⟨rfl, rfl⟩, Nat.le_of_ble_eq_true rfl, Nat.le_of_ble_eq_true rfl⟩ (As := [.long (gL M q 6)]) (rest := []) rfl hl.1 rfl (Nat.le_of_ble_eq_true rfl) dX0_doStep_134 ⟨Nat.zero_le _, Nat.zero_le _⟩) hS (fun H locs hP hS => ?_)
                  refine lv_if_eq (tgt := 153) hx hb dX0_doStep_137 (by decide) (fun hc => ?_) (fun hc => ?_)
                  · replace h := if_elp h hc
                    refine lv_iconst (v := 2) hx hb dX0_doStep_153 (by decide) ?_
                    exact r_iret X hP hS (pr1 h) (pr2 h) dX0_doStep_154
                  · replace h := if_eln h hc
                    refine lv_aload_n hx hb dX0_doStep_140 rfl (lv_at hl 0 rfl) ?_
                    refine lv_iconst (v := 1) hx hb dX0_doStep_141 (by decide) ?_
                    refine lv_aload_n hx hb dX0_doStep_142 rfl (lv_at hl 0 rfl) ?_
                    refine gf_X0_60 X hP (kA_0 hq) dX0_doStep_143 ?_
                    refine lv_l2i (v := (Int64.toInt32 (gL M q 6))) hx hb dX0_doStep_146 rfl ?_
                    obtain ⟨r_8, h_16, h⟩ := bd_el h
                    refine cl_i (rn_V (C := RX0) (ci := 0) X hP (c_X0_reckon hq h_16) (kA_0 hq) rfl k_379 k_380 k_886 k_8 k_381 rfl hd_X0_reckon (n := 2) ⟨⟨rfl, rfl⟩, Nat.le_of_ble_eq_true rfl, Nat.le_of_ble_eq_true rfl⟩ (As := [.int 1, .int (Int64.toInt32 (gL M q 6))]) (rest := []) rfl hl.1 rfl (Nat.le_of_ble_eq_true rfl) dX0_doStep_147 ⟨Nat.zero_le _, Nat.zero_le _⟩) hS (fun H locs hP hS => ?_)
                    refine lv_goto (tgt := 154) hx hb dX0_doStep_150 (by decide) ?_
                    exact r_iret X hP hS (pr1 h) (pr2 h) dX0_doStep_154
                · replace h := if_eln h h_14
                  by_cases h_17 : a1 = 8
                  · replace h := if_elp h h_17
                    refine lv_tableIn (off := 103) (tgt := 104) hx hb dX0_doStep_1 (by rw [h_17]; decide) (by rw [h_17]; decide) (by rw [h_17]; rfl) (by decide) ?_
                    refine lv_aload_n hx hb dX0_doStep_104 rfl (lv_at hl 0 rfl) ?_
                    refine lv_iload_n hx hb dX0_doStep_105 rfl (lv_at hl 1 rfl) ?_
                    refine lv_iload_n hx hb dX0_doStep_106 rfl (lv_at hl 2 rfl) ?_
                    obtain ⟨r_9, h_18, h⟩ := bd_el h
                    refine cl_i (rn_V (C := RX0) (ci := 0) X hP (c_X0_reckon hq h_18) (kA_0 hq) rfl k_379 k_380 k_886 k_8 k_381 rfl hd_X0_reckon (n := 2) ⟨⟨rfl, rfl⟩, Nat.le_of_ble_eq_true rfl, Nat.le_of_ble_eq_true rfl⟩ (As := [.int a1, .int a2]) (rest := []) rfl hl.1 rfl (Nat.le_of_ble_eq_true rfl) dX0_doStep_107 ⟨Nat.zero_le _, Nat.zero_le _⟩) hS (fun H locs hP hS => ?_)
                    exact r_iret X hP hS (pr1 h) (pr2 h) dX0_doStep_110
                  · replace h := if_eln h h_17
                    by_cases h_19 : a1 = 9
                    · replace h := if_elp h h_19
                      refine lv_tableIn (off := 154) (tgt := 155) hx hb dX0_doStep_1 (by rw [h_19]; decide) (by rw [h_19]; decide) (by rw [h_19]; rfl) (by decide) ?_
                      refine lv_aload_n hx hb dX0_doStep_155 rfl (lv_at hl 0 rfl) ?_
                      refine lv_iload_n hx hb dX0_doStep_156 rfl (lv_at hl 2 rfl) ?_
                      obtain ⟨r_10, h_20, h⟩ := bd_el h
                      refine cl_i (rn_V (C := RX0) (ci := 0) X hP (c_X0_weigh hq h_20) (kA_0 hq) rfl k_403 k_404 k_891 k_8 k_405 rfl hd_X0_weigh (n := 1) ⟨⟨rfl, rfl⟩, Nat.le_of_ble_eq_true rfl, Nat.le_of_ble_eq_true rfl⟩ (As := [.int a2]) (rest := []) rfl hl.1 rfl (Nat.le_of_ble_eq_true rfl) dX0_doStep_157 ⟨Nat.zero_le _, Nat.zero_le _⟩) hS (fun H locs hP hS => ?_)
                      exact r_iret X hP hS (pr1 h) (pr2 h) dX0_doStep_160
                    · replace h := if_eln h h_19
                      by_cases h_21 : a1 = 10
                      · replace h := if_elp h h_21
                        refine lv_tableIn (off := 160) (tgt := 161) hx hb dX0_doStep_1 (by rw [h_21]; decide) (by rw [h_21]; decide) (by rw [h_21]; rfl) (by decide) ?_
                        refine lv_aload_n hx hb dX0_doStep_161 rfl (lv_at hl 0 rfl) ?_
                        refine lv_iload_n hx hb dX0_doStep_162 rfl (lv_at hl 2 rfl) ?_
                        refine lv_iload_n hx hb dX0_doStep_163 rfl (lv_at hl 3 rfl) ?_
                        obtain ⟨r_11, h_22, h⟩ := bd_el h
                        refine cl_i (rn_V (C := RX0) (ci := 0) X hP (c_X0_give hq h_22) (kA_0 hq) rfl k_406 k_407 k_892 k_8 k_408 rfl hd_X0_give (n := 2) ⟨⟨rfl, rfl⟩, Nat.le_of_ble_eq_true rfl, Nat.le_of_ble_eq_true rfl⟩ (As := [.int a2, .int a3]) (rest := []) rfl hl.1 rfl (Nat.le_of_ble_eq_true rfl) dX0_doStep_164 ⟨Nat.zero_le _, Nat.zero_le _⟩) hS (fun H locs hP hS => ?_)
                        exact r_iret X hP hS (pr1 h) (pr2 h) dX0_doStep_167
                      · replace h := if_eln h h_21
                        by_cases h_23 : a1 = 11
                        · replace h := if_elp h h_23
                          refine lv_tableIn (off := 167) (tgt := 168) hx hb dX0_doStep_1 (by rw [h_23]; decide) (by rw [h_23]; decide) (by rw [h_23]; rfl) (by decide) ?_
                          refine lv_aload_n hx hb dX0_doStep_168 rfl (lv_at hl 0 rfl) ?_
                          refine lv_iload_n hx hb dX0_doStep_169 rfl (lv_at hl 2 rfl) ?_
                          refine lv_iload_n hx hb dX0_doStep_170 rfl (lv_at hl 3 rfl) ?_
                          obtain ⟨r_12, h_24, h⟩ := bd_el h
                          refine cl_i (rn_V (C := RX0) (ci := 0) X hP (c_X0_swap hq h_24) (kA_0 hq) rfl k_410 k_411 k_893 k_8 k_412 rfl hd_X0_swap (n := 2) ⟨⟨rfl, rfl⟩, Nat.le_of_ble_eq_true rfl, Nat.le_of_ble_eq_true rfl⟩ (As := [.int a2, .int a3]) (rest := []) rfl hl.1 rfl (Nat.le_of_ble_eq_true rfl) dX0_doStep_171 ⟨Nat.zero_le _, Nat.zero_le _⟩) hS (fun H locs hP hS => ?_)
                          exact r_iret X hP hS (pr1 h) (pr2 h) dX0_doStep_174
                        · replace h := if_eln h h_23
                          by_cases h_25 : a1 = 12
                          · replace h := if_elp h h_25
                            refine lv_tableIn (off := 174) (tgt := 175) hx hb dX0_doStep_1 (by rw [h_25]; decide) (by rw [h_25]; decide) (by rw [h_25]; rfl) (by decide) ?_
                            refine lv_aload_n hx hb dX0_doStep_175 rfl (lv_at hl 0 rfl) ?_
                            obtain ⟨r_13, h_26, h⟩ := bd_el h
                            refine cl_i (rn_V (C := RX0) (ci := 0) X hP (c_X0_say hq h_26) (kA_0 hq) rfl k_413 k_414 k_894 k_8 k_415 rfl hd_X0_say (n := 0) ⟨⟨rfl, rfl⟩, Nat.le_of_ble_eq_true rfl, Nat.le_of_ble_eq_true rfl⟩ (As := []) (rest := []) rfl hl.1 rfl (Nat.le_of_ble_eq_true rfl) dX0_doStep_176 ⟨Nat.zero_le _, Nat.zero_le _⟩) hS (fun H locs hP hS => ?_)
                            exact r_iret X hP hS (pr1 h) (pr2 h) dX0_doStep_179
                          · replace h := if_eln h h_25
                            by_cases h_27 : a1 = 13
                            · replace h := if_elp h h_27
                              refine lv_tableIn (off := 195) (tgt := 196) hx hb dX0_doStep_1 (by rw [h_27]; decide) (by rw [h_27]; decide) (by rw [h_27]; rfl) (by decide) ?_
                              refine lv_iconst (v := 0) hx hb dX0_doStep_196 (by decide) ?_
                              exact r_iret X hP hS (pr1 h) (pr2 h) dX0_doStep_197
                            · replace h := if_eln h h_27
                              by_cases h_28 : a1 = 14
                              · replace h := if_elp h h_28
                                refine lv_tableIn (off := 179) (tgt := 180) hx hb dX0_doStep_1 (by rw [h_28]; decide) (by rw [h_28]; decide) (by rw [h_28]; rfl) (by decide) ?_
                                refine lv_aload_n hx hb dX0_doStep_180 rfl (lv_at hl 0 rfl) ?_
                                refine lv_iload_n hx hb dX0_doStep_181 rfl (lv_at hl 2 rfl) ?_
                                obtain ⟨r_14, h_29, h⟩ := bd_el h
                                refine cl_i (rn_V (C := RX0) (ci := 0) X hP (c_X0_fail hq h_29) (kA_0 hq) rfl k_416 k_417 k_895 k_8 k_418 rfl hd_X0_fail (n := 1) ⟨⟨rfl, rfl⟩, Nat.le_of_ble_eq_true rfl, Nat.le_of_ble_eq_true rfl⟩ (As := [.int a2]) (rest := []) rfl hl.1 rfl (Nat.le_of_ble_eq_true rfl) dX0_doStep_182 ⟨Nat.zero_le _, Nat.zero_le _⟩) hS (fun H locs hP hS => ?_)
                                exact r_iret X hP hS (pr1 h) (pr2 h) dX0_doStep_185
                              · replace h := if_eln h h_28
                                by_cases h_30 : a1 = 15
                                · replace h := if_elp h h_30
                                  refine lv_tableIn (off := 185) (tgt := 186) hx hb dX0_doStep_1 (by rw [h_30]; decide) (by rw [h_30]; decide) (by rw [h_30]; rfl) (by decide) ?_
                                  refine lv_bipush (v := 11) hx hb dX0_doStep_186 (by decide) ?_
                                  exact r_iret X hP hS (pr1 h) (pr2 h) dX0_doStep_188
                                · replace h := if_eln h h_30
                                  by_cases h_31 : a1 = 16
                                  · replace h := if_elp h h_31
                                    refine lv_tableIn (off := 195) (tgt := 196) hx hb dX0_doStep_1 (by rw [h_31]; decide) (by rw [h_31]; decide) (by rw [h_31]; rfl) (by decide) ?_
                                    refine lv_iconst (v := 0) hx hb dX0_doStep_196 (by decide) ?_
                                    exact r_iret X hP hS (pr1 h) (pr2 h) dX0_doStep_197
                                  · replace h := if_eln h h_31
                                    by_cases h_32 : a1 = 17
                                    · replace h := if_elp h h_32
                                      refine lv_tableIn (off := 195) (tgt := 196) hx hb dX0_doStep_1 (by rw [h_32]; decide) (by rw [h_32]; decide) (by rw [h_32]; rfl) (by decide) ?_
                                      refine lv_iconst (v := 0) hx hb dX0_doStep_196 (by decide) ?_
                                      exact r_iret X hP hS (pr1 h) (pr2 h) dX0_doStep_197
                                    · replace h := if_eln h h_32
                                      by_cases h_33 : a1 = 18
                                      · replace h := if_elp h h_33
                                        refine lv_tableIn (off := 195) (tgt := 196) hx hb dX0_doStep_1 (by rw [h_33]; decide) (by rw [h_33]; decide) (by rw [h_33]; rfl) (by decide) ?_
                                        refine lv_iconst (v := 0) hx hb dX0_doStep_196 (by decide) ?_
                                        exact r_iret X hP hS (pr1 h) (pr2 h) dX0_doStep_197
                                      · replace h := if_eln h h_33
                                        by_cases h_34 : a1 = 19
                                        · replace h := if_elp h h_34
                                          refine lv_tableIn (off := 188) (tgt := 189) hx hb dX0_doStep_1 (by rw [h_34]; decide) (by rw [h_34]; decide) (by rw [h_34]; rfl) (by decide) ?_
                                          refine lv_aload_n hx hb dX0_doStep_189 rfl (lv_at hl 0 rfl) ?_
                                          refine lv_iload_n hx hb dX0_doStep_190 rfl (lv_at hl 2 rfl) ?_
                                          refine lv_iload_n hx hb dX0_doStep_191 rfl (lv_at hl 3 rfl) ?_
                                          obtain ⟨r_15, h_35, h⟩ := bd_el h
                                          refine cl_i (rn_V (C := RX0) (ci := 0) X hP (c_X0_putOff hq h_35) (kA_0 hq) rfl k_419 k_420 k_896 k_8 k_421 rfl hd_X0_putOff (n := 2) ⟨⟨rfl, rfl⟩, Nat.le_of_ble_eq_true rfl, Nat.le_of_ble_eq_true rfl⟩ (As := [.int a2, .int a3]) (rest := []) rfl hl.1 rfl (Nat.le_of_ble_eq_true rfl) dX0_doStep_192 ⟨Nat.zero_le _, Nat.zero_le _⟩) hS (fun H locs hP hS => ?_)
                                          exact r_iret X hP hS (pr1 h) (pr2 h) dX0_doStep_195
                                        · replace h := if_eln h h_34
                                          refine lv_tableOut (tgt := 196) hx hb dX0_doStep_1 (by have z0 := lv_neT (a := 0) h_1 rfl; have z1 := lv_neT (a := 1) h_2 rfl; have z2 := lv_neT (a := 2) h_4 rfl; have z3 := lv_neT (a := 3) h_6 rfl; have z4 := lv_neT (a := 4) h_8 rfl; have z5 := lv_neT (a := 5) h_10 rfl; have z6 := lv_neT (a := 6) h_12 rfl; have z7 := lv_neT (a := 7) h_14 rfl; have z8 := lv_neT (a := 8) h_17 rfl; have z9 := lv_neT (a := 9) h_19 rfl; have z10 := lv_neT (a := 10) h_21 rfl; have z11 := lv_neT (a := 11) h_23 rfl; have z12 := lv_neT (a := 12) h_25 rfl; have z13 := lv_neT (a := 13) h_27 rfl; have z14 := lv_neT (a := 14) h_28 rfl; have z15 := lv_neT (a := 15) h_30 rfl; have z16 := lv_neT (a := 16) h_31 rfl; have z17 := lv_neT (a := 17) h_32 rfl; have z18 := lv_neT (a := 18) h_33 rfl; have z19 := lv_neT (a := 19) h_34 rfl; omega) (by decide) ?_
                                          refine lv_iconst (v := 0) hx hb dX0_doStep_196 (by decide) ?_
                                          exact r_iret X hP hS (pr1 h) (pr2 h) dX0_doStep_197
abbrev rmX8_isAmong : Room := { frames := 0, cells := 0, slots := 0, locals := 0 }
def f_X8_isAmong (a0 : Int64) (a2 : Int32) : Option (Bool) :=
  if (a0 &&& (1 <<< (Int32.toInt64 a2 &&& 63))) = 0 then (some false) else (some true)
set_option maxRecDepth 100000 in
set_option maxHeartbeats 4000000 in
theorem c_X8_isAmong {l : Launch} {G : va_G} {cy : Nat → ClassId} {B nT : Nat} {M : Mem} {a0 : Int64} {a2 : Int32} {out : Bool} (h : f_X8_isAmong a0 a2 = some out) : Met l yX8_isAmong (wsU yX8_isAmong cX8_isAmong 3 (some .boolean)) rmX8_isAmong (va_Pc [.long a0, .int a2] (PU G B cy nT M)) (Qi G B cy nT (bI out) M) 0 0 (FB B) := by
  refine r_met (by decide +kernel) RX8 rfl (Nat.le_of_ble_eq_true rfl) ?_
  intro p e s m args below meth c ls X hP hl
  have hl : lv_has ls 3 [(0, .long a0), (2, .int a2)] := hl
  have hS : va_S (FB B) s.heap s.heap [] := va_S.rf
  obtain ⟨hx, hb, hr, hml, hown, hts, hKn, hlk⟩ := id X
  unfold f_X8_isAmong at h
  refine lv_lload_n hx hb dX8_isAmong_0 rfl (lv_at hl 0 rfl) ?_
  refine lv_lconst (v := 1) hx hb dX8_isAmong_1 rfl ?_
  refine lv_iload_n hx hb dX8_isAmong_2 rfl (lv_at hl 1 rfl) ?_
  refine lv_lshl (v := (1 <<< (Int32.toInt64 a2 &&& 63))) hx hb dX8_isAmong_3 rfl ?_
  refine lv_land hx hb dX8_isAmong_4 ?_
  refine lv_lconst (v := 0) hx hb dX8_isAmong_5 rfl ?_
  refine W.lcmp hx hb dX8_isAmong_6 ?_
  refine lv_if_eq (tgt := 14) hx hb dX8_isAmong_7 (by decide) (fun hc => ?_) (fun hc => ?_)
  · replace h := if_elp h (lc_eq.mp hc)
    refine lv_iconst (v := 0) hx hb dX8_isAmong_14 (by decide) ?_
    exact r_zret X hP hS rfl (prz h) rfl dX8_isAmong_15
  · replace h := if_eln h (fun z => hc (lc_eq.mpr z))
    refine lv_iconst (v := 1) hx hb dX8_isAmong_10 (by decide) ?_
    refine lv_goto (tgt := 15) hx hb dX8_isAmong_11 (by decide) ?_
    exact r_zret X hP hS rfl (prz h) rfl dX8_isAmong_15
abbrev rmX1_takeThose : Room := { frames := 1, cells := 0, slots := 0, locals := 26 }
def f_X1_takeThose_53 (q : Nat) (q3 : Nat) (K3 : Mem → Int64 → Int32 → Option (Mem)) (M : Mem) (v1 : Int64) (v4 : Int32) : Option (Mem) :=
  lt (v4 + 1) fun v_1 => K3 M v1 v_1
set_option maxRecDepth 100000 in
set_option maxHeartbeats 4000000 in
theorem w_X1_takeThose_53 (X : Cx p s m args meth c cX1_takeThose RX1 5 none G cy) {q : Nat} (hq : isC q) {q3 : Nat} (hq3 : isC q3) {out : Mem} {K3 : Mem → Int64 → Int32 → Option (Mem)} (hK3 : ∀ (H : Heap) (locs : List Loc) (ls : Array Slot) (M : Mem) (v1 : Int64) (v4 : Int32), Pic G B cy nT M H → va_S (FB B) s.heap H locs → lv_has ls 5 [(0, .ref (B + q)), (1, .long v1), (3, .ref (B + q3)), (4, .int v4)] → K3 M v1 v4 = some out → W p l e rmX1_takeThose s m args below meth c H locs 0 0 (MQ below (Qv G B cy nT out) args s 0 0 (FB B)) (F0 m 3 ls [])) {M : Mem} {v1 : Int64} {v4 : Int32} (hP : Pic G B cy nT M H) (hS : va_S (FB B) s.heap H locs) (hl : lv_has ls 5 [(0, .ref (B + q)), (1, .long v1), (3, .ref (B + q3)), (4, .int v4)]) (h : f_X1_takeThose_53 q q3 K3 M v1 v4 = some out) : W p l e rmX1_takeThose s m args below meth c H locs 0 0 (MQ below (Qv G B cy nT out) args s 0 0 (FB B)) (F0 m 53 ls []) := by
  obtain ⟨hx, hb, hr, hml, hown, hts, hKn, hlk⟩ := id X
  unfold f_X1_takeThose_53 at h
  obtain ⟨v_1, e_1, h⟩ := lt_el h
  refine lv_iinc (v := v_1) (lv' := [(4, .int v_1), (0, .ref (B + q)), (1, .long v1), (3, .ref (B + q3))]) hx hb dX1_takeThose_53 hl (k := 3) rfl (by rw [e_1]; rfl) (by decide) rfl (fun ls hl => ?_)
  refine lv_goto (tgt := 3) hx hb dX1_takeThose_56 (by decide) ?_
  exact hK3 _ _ _ _ _ _ hP hS (lv_sub hl [1, 2, 3, 0] rfl) h
def f_X1_takeThose_3 (q : Nat) (q3 : Nat) : Nat → Mem → Int64 → Int32 → Option (Mem)
  | 0, _, _, _ => none
  | n + 1, M, v1, v4 => if 40 ≤ v4 then (some M) else (Option.bind (f_X8_isAmong v1 v4) fun r_1 => if (bI r_1) = 0 then (f_X1_takeThose_53 q q3 (f_X1_takeThose_3 q q3 n) M v1 v4) else (gd (inR v4 40) <| gd (inR v4 40) <| gd (inR v4 40) <| gd (inR v4 40) <| Option.bind (f_X1_put q M v4 (gI M (q3 + 1) v4.toNatClampNeg) (gL M (q3 + 2) v4.toNatClampNeg) (gI M (q3 + 3) v4.toNatClampNeg) (gI M (q3 + 4) v4.toNatClampNeg)) fun r_2 => f_X1_takeThose_53 q q3 (f_X1_takeThose_3 q q3 n) r_2 v1 v4))
set_option maxRecDepth 100000 in
set_option maxHeartbeats 4000000 in
theorem w_X1_takeThose_3 (X : Cx p s m args meth c cX1_takeThose RX1 5 none G cy) {q : Nat} (hq : isC q) {q3 : Nat} (hq3 : isC q3) {out : Mem} : ∀ n : Nat, ∀ (H : Heap) (locs : List Loc) (ls : Array Slot) (M : Mem) (v1 : Int64) (v4 : Int32), Pic G B cy nT M H → va_S (FB B) s.heap H locs → lv_has ls 5 [(0, .ref (B + q)), (1, .long v1), (3, .ref (B + q3)), (4, .int v4)] → f_X1_takeThose_3 q q3 n M v1 v4 = some out → W p l e rmX1_takeThose s m args below meth c H locs 0 0 (MQ below (Qv G B cy nT out) args s 0 0 (FB B)) (F0 m 3 ls []) := by
  obtain ⟨hx, hb, hr, hml, hown, hts, hKn, hlk⟩ := id X
  intro n
  induction n with
  | zero =>
    intro H locs ls M v1 v4 hP hS hl h
    cases h
  | succ n ih =>
    intro H locs ls M v1 v4 hP hS hl h
    rw [f_X1_takeThose_3] at h
    refine lv_iload hx hb dX1_takeThose_3 (lv_at hl 3 rfl) ?_
    refine lv_bipush (v := 40) hx hb dX1_takeThose_5 (by decide) ?_
    refine lv_icmp_ge (tgt := 59) hx hb dX1_takeThose_7 (by decide) (fun hc => ?_) (fun hc => ?_)
    · replace h := if_elp h hc
      exact r_vret X hP hS (pr0 h) dX1_takeThose_59
    · replace h := if_eln h hc
      refine lv_lload_n hx hb dX1_takeThose_10 rfl (lv_at hl 1 rfl) ?_
      refine lv_iload hx hb dX1_takeThose_11 (lv_at hl 3 rfl) ?_
      obtain ⟨r_1, h_1, h⟩ := bd_el h
      refine cl_i (rn_SN X hP (c_X8_isAmong h_1) nst_X1_31 k_204 k_1 k_205 hd_X8_isAmong (n := 2) ⟨⟨rfl, rfl⟩, Nat.le_of_ble_eq_true rfl, Nat.le_of_ble_eq_true rfl⟩ (As := [.long v1, .int v4]) (rest := []) rfl hl.1 rfl (Nat.le_of_ble_eq_true rfl) dX1_takeThose_13 ⟨Nat.zero_le _, Nat.zero_le _⟩) hS (fun H locs hP hS => ?_)
      refine lv_if_eq (tgt := 53) hx hb dX1_takeThose_16 (by decide) (fun hc => ?_) (fun hc => ?_)
      · replace h := if_elp h hc
        exact w_X1_takeThose_53 X hq hq3 ih hP hS (lv_sub hl [0, 1, 2, 3] rfl) h
      · replace h := if_eln h hc
        refine lv_aload_n hx hb dX1_takeThose_19 rfl (lv_at hl 0 rfl) ?_
        refine lv_iload hx hb dX1_takeThose_20 (lv_at hl 3 rfl) ?_
        refine lv_aload_n hx hb dX1_takeThose_22 rfl (lv_at hl 2 rfl) ?_
        refine gf_X1_9 X hP (kC_0 hq3) dX1_takeThose_23 ?_
        refine lv_iload hx hb dX1_takeThose_26 (lv_at hl 3 rfl) ?_
        obtain ⟨g_1, h⟩ := gd_el h
        refine r_iald X hP (kC_1 hq3) g_1 dX1_takeThose_28 ?_
        refine lv_aload_n hx hb dX1_takeThose_29 rfl (lv_at hl 2 rfl) ?_
        refine gf_X1_15 X hP (kC_0 hq3) dX1_takeThose_30 ?_
        refine lv_iload hx hb dX1_takeThose_33 (lv_at hl 3 rfl) ?_
        obtain ⟨g_2, h⟩ := gd_el h
        refine r_lald X hP (kC_2 hq3) g_2 dX1_takeThose_35 ?_
        refine lv_aload_n hx hb dX1_takeThose_36 rfl (lv_at hl 2 rfl) ?_
        refine gf_X1_19 X hP (kC_0 hq3) dX1_takeThose_37 ?_
        refine lv_iload hx hb dX1_takeThose_40 (lv_at hl 3 rfl) ?_
        obtain ⟨g_3, h⟩ := gd_el h
        refine r_iald X hP (kC_3 hq3) g_3 dX1_takeThose_42 ?_
        refine lv_aload_n hx hb dX1_takeThose_43 rfl (lv_at hl 2 rfl) ?_
        refine gf_X1_22 X hP (kC_0 hq3) dX1_takeThose_44 ?_
        refine lv_iload hx hb dX1_takeThose_47 (lv_at hl 3 rfl) ?_
        obtain ⟨g_4, h⟩ := gd_el h
        refine r_iald X hP (kC_4 hq3) g_4 dX1_takeThose_49 ?_
        obtain ⟨r_2, h_2, h⟩ := bd_el h
        refine cl_v (rn_V (C := RX1) (ci := 1) X hP (c_X1_put hq h_2) (kC_0 hq) rfl k_452 k_191 k_192 k_3 k_193 rfl hd_X1_put (n := 5) ⟨⟨rfl, rfl⟩, Nat.le_of_ble_eq_true rfl, Nat.le_of_ble_eq_true rfl⟩ (As := [.int v4, .int (gI M (q3 + 1) v4.toNatClampNeg), .long (gL M (q3 + 2) v4.toNatClampNeg), .int (gI M (q3 + 3) v4.toNatClampNeg), .int (gI M (q3 + 4) v4.toNatClampNeg)]) (rest := []) rfl hl.1 rfl (Nat.le_of_ble_eq_true rfl) dX1_takeThose_50 ⟨Nat.zero_le _, Nat.zero_le _⟩) hS (fun H locs hP hS => ?_)
        exact w_X1_takeThose_53 X hq hq3 ih hP hS (lv_sub hl [0, 1, 2, 3] rfl) h
def f_X1_takeThose (q : Nat) (q3 : Nat) (M : Mem) (a1 : Int64) : Option (Mem) :=
  f_X1_takeThose_3 q q3 FU M a1 0
set_option maxRecDepth 100000 in
set_option maxHeartbeats 4000000 in
theorem c_X1_takeThose {l : Launch} {G : va_G} {cy : Nat → ClassId} {B nT : Nat} {q : Nat} (hq : isC q) {q3 : Nat} (hq3 : isC q3) {M : Mem} {a1 : Int64} {out : Mem} (h : f_X1_takeThose q q3 M a1 = some out) : Met l yX1_takeThose (wsU yX1_takeThose cX1_takeThose 5 none) rmX1_takeThose (va_Pc [.ref (B + q), .long a1, .ref (B + q3)] (PU G B cy nT M)) (Qv G B cy nT out) 0 0 (FB B) := by
  refine r_met (by decide +kernel) RX1 rfl (Nat.le_of_ble_eq_true rfl) ?_
  intro p e s m args below meth c ls X hP hl
  have hl : lv_has ls 5 [(0, .ref (B + q)), (1, .long a1), (3, .ref (B + q3))] := hl
  have hS : va_S (FB B) s.heap s.heap [] := va_S.rf
  obtain ⟨hx, hb, hr, hml, hown, hts, hKn, hlk⟩ := id X
  unfold f_X1_takeThose at h
  refine lv_iconst (v := 0) hx hb dX1_takeThose_0 (by decide) ?_
  refine lv_istore (lv' := [(4, .int 0), (0, .ref (B + q)), (1, .long a1), (3, .ref (B + q3))]) hx hb dX1_takeThose_1 hl (by decide) rfl (fun ls hl => ?_)
  exact w_X1_takeThose_3 X hq hq3 FU _ _ _ _ _ _ hP hS (lv_sub hl [1, 2, 3, 0] rfl) h
abbrev rmX1_gramsOfKind : Room := { frames := 0, cells := 0, slots := 0, locals := 0 }
def f_X1_gramsOfKind_44 (q : Nat) (M : Mem) (K5 : Int32 → Int64 → Int32 → Option (Int64)) (v1 : Int32) (v2 : Int64) (v4 : Int32) : Option (Int64) :=
  lt (v4 + 1) fun v_1 => K5 v1 v2 v_1
set_option maxRecDepth 100000 in
set_option maxHeartbeats 4000000 in
theorem w_X1_gramsOfKind_44 (X : Cx p s m args meth c cX1_gramsOfKind RX1 5 (some .long) G cy) {q : Nat} (hq : isC q) {M : Mem} {out : Int64} {K5 : Int32 → Int64 → Int32 → Option (Int64)} (hK5 : ∀ (H : Heap) (locs : List Loc) (ls : Array Slot) (v1 : Int32) (v2 : Int64) (v4 : Int32), Pic G B cy nT M H → va_S (FB B) s.heap H locs → lv_has ls 5 [(0, .ref (B + q)), (1, .int v1), (2, .long v2), (4, .int v4)] → K5 v1 v2 v4 = some out → W p l e rmX1_gramsOfKind s m args below meth c H locs 0 0 (MQ below (Ql G B cy nT out M) args s 0 0 (FB B)) (F0 m 5 ls [])) {v1 : Int32} {v2 : Int64} {v4 : Int32} (hP : Pic G B cy nT M H) (hS : va_S (FB B) s.heap H locs) (hl : lv_has ls 5 [(0, .ref (B + q)), (1, .int v1), (2, .long v2), (4, .int v4)]) (h : f_X1_gramsOfKind_44 q M K5 v1 v2 v4 = some out) : W p l e rmX1_gramsOfKind s m args below meth c H locs 0 0 (MQ below (Ql G B cy nT out M) args s 0 0 (FB B)) (F0 m 44 ls []) := by
  obtain ⟨hx, hb, hr, hml, hown, hts, hKn, hlk⟩ := id X
  unfold f_X1_gramsOfKind_44 at h
  obtain ⟨v_1, e_1, h⟩ := lt_el h
  refine lv_iinc (v := v_1) (lv' := [(4, .int v_1), (0, .ref (B + q)), (1, .int v1), (2, .long v2)]) hx hb dX1_gramsOfKind_44 hl (k := 3) rfl (by rw [e_1]; rfl) (by decide) rfl (fun ls hl => ?_)
  refine lv_goto (tgt := 5) hx hb dX1_gramsOfKind_47 (by decide) ?_
  exact hK5 _ _ _ _ _ _ hP hS (lv_sub hl [1, 2, 3, 0] rfl) h
def f_X1_gramsOfKind_5 (q : Nat) (M : Mem) : Nat → Int32 → Int64 → Int32 → Option (Int64)
  | 0, _, _, _ => none
  | n + 1, v1, v2, v4 => if 40 ≤ v4 then (some v2) else (gd (inR v4 40) <| if (gI M (q + 1) v4.toNatClampNeg) = 2 then (gd (inR v4 40) <| if (gI M (q + 3) v4.toNatClampNeg) = v1 then (gd (inR v4 40) <| lt (v2 + (gL M (q + 2) v4.toNatClampNeg)) fun v_1 => f_X1_gramsOfKind_44 q M (f_X1_gramsOfKind_5 q M n) v1 v_1 v4) else (f_X1_gramsOfKind_44 q M (f_X1_gramsOfKind_5 q M n) v1 v2 v4)) else (f_X1_gramsOfKind_44 q M (f_X1_gramsOfKind_5 q M n) v1 v2 v4))
set_option maxRecDepth 100000 in
set_option maxHeartbeats 4000000 in
theorem w_X1_gramsOfKind_5 (X : Cx p s m args meth c cX1_gramsOfKind RX1 5 (some .long) G cy) {q : Nat} (hq : isC q) {M : Mem} {out : Int64} : ∀ n : Nat, ∀ (H : Heap) (locs : List Loc) (ls : Array Slot) (v1 : Int32) (v2 : Int64) (v4 : Int32), Pic G B cy nT M H → va_S (FB B) s.heap H locs → lv_has ls 5 [(0, .ref (B + q)), (1, .int v1), (2, .long v2), (4, .int v4)] → f_X1_gramsOfKind_5 q M n v1 v2 v4 = some out → W p l e rmX1_gramsOfKind s m args below meth c H locs 0 0 (MQ below (Ql G B cy nT out M) args s 0 0 (FB B)) (F0 m 5 ls []) := by
  obtain ⟨hx, hb, hr, hml, hown, hts, hKn, hlk⟩ := id X
  intro n
  induction n with
  | zero =>
    intro H locs ls v1 v2 v4 hP hS hl h
    cases h
  | succ n ih =>
    intro H locs ls v1 v2 v4 hP hS hl h
    rw [f_X1_gramsOfKind_5] at h
    refine lv_iload hx hb dX1_gramsOfKind_5 (lv_at hl 3 rfl) ?_
    refine lv_bipush (v := 40) hx hb dX1_gramsOfKind_7 (by decide) ?_
    refine lv_icmp_ge (tgt := 50) hx hb dX1_gramsOfKind_9 (by decide) (fun hc => ?_) (fun hc => ?_)
    · replace h := if_elp h hc
      refine lv_lload_n hx hb dX1_gramsOfKind_50 rfl (lv_at hl 2 rfl) ?_
      exact r_lret X hP hS (pr0 h) rfl dX1_gramsOfKind_51
    · replace h := if_eln h hc
      refine lv_aload_n hx hb dX1_gramsOfKind_12 rfl (lv_at hl 0 rfl) ?_
      refine gf_X1_9 X hP (kC_0 hq) dX1_gramsOfKind_13 ?_
      refine lv_iload hx hb dX1_gramsOfKind_16 (lv_at hl 3 rfl) ?_
      obtain ⟨g_1, h⟩ := gd_el h
      refine r_iald X hP (kC_1 hq) g_1 dX1_gramsOfKind_18 ?_
      refine lv_iconst (v := 2) hx hb dX1_gramsOfKind_19 (by decide) ?_
      refine lv_icmp_ne (tgt := 44) hx hb dX1_gramsOfKind_20 (by decide) (fun hc => ?_) (fun hc => ?_)
      · replace h := if_eln h hc
        exact w_X1_gramsOfKind_44 X hq ih hP hS (lv_sub hl [0, 1, 2, 3] rfl) h
      · replace h := if_elp h hc
        refine lv_aload_n hx hb dX1_gramsOfKind_23 rfl (lv_at hl 0 rfl) ?_
        refine gf_X1_19 X hP (kC_0 hq) dX1_gramsOfKind_24 ?_
        refine lv_iload hx hb dX1_gramsOfKind_27 (lv_at hl 3 rfl) ?_
        obtain ⟨g_2, h⟩ := gd_el h
        refine r_iald X hP (kC_3 hq) g_2 dX1_gramsOfKind_29 ?_
        refine lv_iload_n hx hb dX1_gramsOfKind_30 rfl (lv_at hl 1 rfl) ?_
        refine lv_icmp_ne (tgt := 44) hx hb dX1_gramsOfKind_31 (by decide) (fun hc => ?_) (fun hc => ?_)
        · replace h := if_eln h hc
          exact w_X1_gramsOfKind_44 X hq ih hP hS (lv_sub hl [0, 1, 2, 3] rfl) h
        · replace h := if_elp h hc
          refine lv_lload_n hx hb dX1_gramsOfKind_34 rfl (lv_at hl 2 rfl) ?_
          refine lv_aload_n hx hb dX1_gramsOfKind_35 rfl (lv_at hl 0 rfl) ?_
          refine gf_X1_15 X hP (kC_0 hq) dX1_gramsOfKind_36 ?_
          refine lv_iload hx hb dX1_gramsOfKind_39 (lv_at hl 3 rfl) ?_
          obtain ⟨g_3, h⟩ := gd_el h
          refine r_lald X hP (kC_2 hq) g_3 dX1_gramsOfKind_41 ?_
          refine lv_ladd hx hb dX1_gramsOfKind_42 ?_
          obtain ⟨v_1, e_1, h⟩ := lt_el h
          refine r_topl e_1 ?_
          refine lv_lstore_n (lv' := [(2, .long v_1), (0, .ref (B + q)), (1, .int v1), (4, .int v4)]) hx hb dX1_gramsOfKind_43 rfl hl (by decide) rfl (fun ls hl => ?_)
          exact w_X1_gramsOfKind_44 X hq ih hP hS (lv_sub hl [1, 2, 0, 3] rfl) h
def f_X1_gramsOfKind (q : Nat) (M : Mem) (a1 : Int32) : Option (Int64) :=
  f_X1_gramsOfKind_5 q M FU a1 0 0
set_option maxRecDepth 100000 in
set_option maxHeartbeats 4000000 in
theorem c_X1_gramsOfKind {l : Launch} {G : va_G} {cy : Nat → ClassId} {B nT : Nat} {q : Nat} (hq : isC q) {M : Mem} {a1 : Int32} {out : Int64} (h : f_X1_gramsOfKind q M a1 = some out) : Met l yX1_gramsOfKind (wsU yX1_gramsOfKind cX1_gramsOfKind 5 (some .long)) rmX1_gramsOfKind (va_Pc [.ref (B + q), .int a1] (PU G B cy nT M)) (Ql G B cy nT out M) 0 0 (FB B) := by
  refine r_met (by decide +kernel) RX1 rfl (Nat.le_of_ble_eq_true rfl) ?_
  intro p e s m args below meth c ls X hP hl
  have hl : lv_has ls 5 [(0, .ref (B + q)), (1, .int a1)] := hl
  have hS : va_S (FB B) s.heap s.heap [] := va_S.rf
  obtain ⟨hx, hb, hr, hml, hown, hts, hKn, hlk⟩ := id X
  unfold f_X1_gramsOfKind at h
  refine lv_lconst (v := 0) hx hb dX1_gramsOfKind_0 rfl ?_
  refine lv_lstore_n (lv' := [(2, .long 0), (0, .ref (B + q)), (1, .int a1)]) hx hb dX1_gramsOfKind_1 rfl hl (by decide) rfl (fun ls hl => ?_)
  refine lv_iconst (v := 0) hx hb dX1_gramsOfKind_2 (by decide) ?_
  refine lv_istore (lv' := [(4, .int 0), (2, .long 0), (0, .ref (B + q)), (1, .int a1)]) hx hb dX1_gramsOfKind_3 hl (by decide) rfl (fun ls hl => ?_)
  exact w_X1_gramsOfKind_5 X hq FU _ _ _ _ _ _ hP hS (lv_sub hl [2, 3, 1, 0] rfl) h
abbrev rmX1_gramsOfGrower : Room := { frames := 0, cells := 0, slots := 0, locals := 0 }
def f_X1_gramsOfGrower_44 (q : Nat) (M : Mem) (K5 : Int32 → Int64 → Int32 → Option (Int64)) (v1 : Int32) (v2 : Int64) (v4 : Int32) : Option (Int64) :=
  lt (v4 + 1) fun v_1 => K5 v1 v2 v_1
set_option maxRecDepth 100000 in
set_option maxHeartbeats 4000000 in
theorem w_X1_gramsOfGrower_44 (X : Cx p s m args meth c cX1_gramsOfGrower RX1 5 (some .long) G cy) {q : Nat} (hq : isC q) {M : Mem} {out : Int64} {K5 : Int32 → Int64 → Int32 → Option (Int64)} (hK5 : ∀ (H : Heap) (locs : List Loc) (ls : Array Slot) (v1 : Int32) (v2 : Int64) (v4 : Int32), Pic G B cy nT M H → va_S (FB B) s.heap H locs → lv_has ls 5 [(0, .ref (B + q)), (1, .int v1), (2, .long v2), (4, .int v4)] → K5 v1 v2 v4 = some out → W p l e rmX1_gramsOfGrower s m args below meth c H locs 0 0 (MQ below (Ql G B cy nT out M) args s 0 0 (FB B)) (F0 m 5 ls [])) {v1 : Int32} {v2 : Int64} {v4 : Int32} (hP : Pic G B cy nT M H) (hS : va_S (FB B) s.heap H locs) (hl : lv_has ls 5 [(0, .ref (B + q)), (1, .int v1), (2, .long v2), (4, .int v4)]) (h : f_X1_gramsOfGrower_44 q M K5 v1 v2 v4 = some out) : W p l e rmX1_gramsOfGrower s m args below meth c H locs 0 0 (MQ below (Ql G B cy nT out M) args s 0 0 (FB B)) (F0 m 44 ls []) := by
  obtain ⟨hx, hb, hr, hml, hown, hts, hKn, hlk⟩ := id X
  unfold f_X1_gramsOfGrower_44 at h
  obtain ⟨v_1, e_1, h⟩ := lt_el h
  refine lv_iinc (v := v_1) (lv' := [(4, .int v_1), (0, .ref (B + q)), (1, .int v1), (2, .long v2)]) hx hb dX1_gramsOfGrower_44 hl (k := 3) rfl (by rw [e_1]; rfl) (by decide) rfl (fun ls hl => ?_)
  refine lv_goto (tgt := 5) hx hb dX1_gramsOfGrower_47 (by decide) ?_
  exact hK5 _ _ _ _ _ _ hP hS (lv_sub hl [1, 2, 3, 0] rfl) h
def f_X1_gramsOfGrower_5 (q : Nat) (M : Mem) : Nat → Int32 → Int64 → Int32 → Option (Int64)
  | 0, _, _, _ => none
  | n + 1, v1, v2, v4 => if 40 ≤ v4 then (some v2) else (gd (inR v4 40) <| if (gI M (q + 1) v4.toNatClampNeg) = 2 then (gd (inR v4 40) <| if (gI M (q + 4) v4.toNatClampNeg) = v1 then (gd (inR v4 40) <| lt (v2 + (gL M (q + 2) v4.toNatClampNeg)) fun v_1 => f_X1_gramsOfGrower_44 q M (f_X1_gramsOfGrower_5 q M n) v1 v_1 v4) else (f_X1_gramsOfGrower_44 q M (f_X1_gramsOfGrower_5 q M n) v1 v2 v4)) else (f_X1_gramsOfGrower_44 q M (f_X1_gramsOfGrower_5 q M n) v1 v2 v4))
set_option maxRecDepth 100000 in
set_option maxHeartbeats 4000000 in
theorem w_X1_gramsOfGrower_5 (X : Cx p s m args meth c cX1_gramsOfGrower RX1 5 (some .long) G cy) {q : Nat} (hq : isC q) {M : Mem} {out : Int64} : ∀ n : Nat, ∀ (H : Heap) (locs : List Loc) (ls : Array Slot) (v1 : Int32) (v2 : Int64) (v4 : Int32), Pic G B cy nT M H → va_S (FB B) s.heap H locs → lv_has ls 5 [(0, .ref (B + q)), (1, .int v1), (2, .long v2), (4, .int v4)] → f_X1_gramsOfGrower_5 q M n v1 v2 v4 = some out → W p l e rmX1_gramsOfGrower s m args below meth c H locs 0 0 (MQ below (Ql G B cy nT out M) args s 0 0 (FB B)) (F0 m 5 ls []) := by
  obtain ⟨hx, hb, hr, hml, hown, hts, hKn, hlk⟩ := id X
  intro n
  induction n with
  | zero =>
    intro H locs ls v1 v2 v4 hP hS hl h
    cases h
  | succ n ih =>
    intro H locs ls v1 v2 v4 hP hS hl h
    rw [f_X1_gramsOfGrower_5] at h
    refine lv_iload hx hb dX1_gramsOfGrower_5 (lv_at hl 3 rfl) ?_
    refine lv_bipush (v := 40) hx hb dX1_gramsOfGrower_7 (by decide) ?_
    refine lv_icmp_ge (tgt := 50) hx hb dX1_gramsOfGrower_9 (by decide) (fun hc => ?_) (fun hc => ?_)
    · replace h := if_elp h hc
      refine lv_lload_n hx hb dX1_gramsOfGrower_50 rfl (lv_at hl 2 rfl) ?_
      exact r_lret X hP hS (pr0 h) rfl dX1_gramsOfGrower_51
    · replace h := if_eln h hc
      refine lv_aload_n hx hb dX1_gramsOfGrower_12 rfl (lv_at hl 0 rfl) ?_
      refine gf_X1_9 X hP (kC_0 hq) dX1_gramsOfGrower_13 ?_
      refine lv_iload hx hb dX1_gramsOfGrower_16 (lv_at hl 3 rfl) ?_
      obtain ⟨g_1, h⟩ := gd_el h
      refine r_iald X hP (kC_1 hq) g_1 dX1_gramsOfGrower_18 ?_
      refine lv_iconst (v := 2) hx hb dX1_gramsOfGrower_19 (by decide) ?_
      refine lv_icmp_ne (tgt := 44) hx hb dX1_gramsOfGrower_20 (by decide) (fun hc => ?_) (fun hc => ?_)
      · replace h := if_eln h hc
        exact w_X1_gramsOfGrower_44 X hq ih hP hS (lv_sub hl [0, 1, 2, 3] rfl) h
      · replace h := if_elp h hc
        refine lv_aload_n hx hb dX1_gramsOfGrower_23 rfl (lv_at hl 0 rfl) ?_
        refine gf_X1_22 X hP (kC_0 hq) dX1_gramsOfGrower_24 ?_
        refine lv_iload hx hb dX1_gramsOfGrower_27 (lv_at hl 3 rfl) ?_
        obtain ⟨g_2, h⟩ := gd_el h
        refine r_iald X hP (kC_4 hq) g_2 dX1_gramsOfGrower_29 ?_
        refine lv_iload_n hx hb dX1_gramsOfGrower_30 rfl (lv_at hl 1 rfl) ?_
        refine lv_icmp_ne (tgt := 44) hx hb dX1_gramsOfGrower_31 (by decide) (fun hc => ?_) (fun hc => ?_)
        · replace h := if_eln h hc
          exact w_X1_gramsOfGrower_44 X hq ih hP hS (lv_sub hl [0, 1, 2, 3] rfl) h
        · replace h := if_elp h hc
          refine lv_lload_n hx hb dX1_gramsOfGrower_34 rfl (lv_at hl 2 rfl) ?_
          refine lv_aload_n hx hb dX1_gramsOfGrower_35 rfl (lv_at hl 0 rfl) ?_
          refine gf_X1_15 X hP (kC_0 hq) dX1_gramsOfGrower_36 ?_
          refine lv_iload hx hb dX1_gramsOfGrower_39 (lv_at hl 3 rfl) ?_
          obtain ⟨g_3, h⟩ := gd_el h
          refine r_lald X hP (kC_2 hq) g_3 dX1_gramsOfGrower_41 ?_
          refine lv_ladd hx hb dX1_gramsOfGrower_42 ?_
          obtain ⟨v_1, e_1, h⟩ := lt_el h
          refine r_topl e_1 ?_
          refine lv_lstore_n (lv' := [(2, .long v_1), (0, .ref (B + q)), (1, .int v1), (4, .int v4)]) hx hb dX1_gramsOfGrower_43 rfl hl (by decide) rfl (fun ls hl => ?_)
          exact w_X1_gramsOfGrower_44 X hq ih hP hS (lv_sub hl [1, 2, 0, 3] rfl) h
def f_X1_gramsOfGrower (q : Nat) (M : Mem) (a1 : Int32) : Option (Int64) :=
  f_X1_gramsOfGrower_5 q M FU a1 0 0
set_option maxRecDepth 100000 in
set_option maxHeartbeats 4000000 in
theorem c_X1_gramsOfGrower {l : Launch} {G : va_G} {cy : Nat → ClassId} {B nT : Nat} {q : Nat} (hq : isC q) {M : Mem} {a1 : Int32} {out : Int64} (h : f_X1_gramsOfGrower q M a1 = some out) : Met l yX1_gramsOfGrower (wsU yX1_gramsOfGrower cX1_gramsOfGrower 5 (some .long)) rmX1_gramsOfGrower (va_Pc [.ref (B + q), .int a1] (PU G B cy nT M)) (Ql G B cy nT out M) 0 0 (FB B) := by
  refine r_met (by decide +kernel) RX1 rfl (Nat.le_of_ble_eq_true rfl) ?_
  intro p e s m args below meth c ls X hP hl
  have hl : lv_has ls 5 [(0, .ref (B + q)), (1, .int a1)] := hl
  have hS : va_S (FB B) s.heap s.heap [] := va_S.rf
  obtain ⟨hx, hb, hr, hml, hown, hts, hKn, hlk⟩ := id X
  unfold f_X1_gramsOfGrower at h
  refine lv_lconst (v := 0) hx hb dX1_gramsOfGrower_0 rfl ?_
  refine lv_lstore_n (lv' := [(2, .long 0), (0, .ref (B + q)), (1, .int a1)]) hx hb dX1_gramsOfGrower_1 rfl hl (by decide) rfl (fun ls hl => ?_)
  refine lv_iconst (v := 0) hx hb dX1_gramsOfGrower_2 (by decide) ?_
  refine lv_istore (lv' := [(4, .int 0), (2, .long 0), (0, .ref (B + q)), (1, .int a1)]) hx hb dX1_gramsOfGrower_3 hl (by decide) rfl (fun ls hl => ?_)
  exact w_X1_gramsOfGrower_5 X hq FU _ _ _ _ _ _ hP hS (lv_sub hl [2, 3, 1, 0] rfl) h
abbrev rmX3_append : Room := { frames := 0, cells := 0, slots := 0, locals := 0 }
def f_X3_append_39 (M : Mem) : Option (Mem) :=
  lt (sI M 22 3 ((gI M 22 3) + 1)) fun M_1 => some M_1
set_option maxRecDepth 100000 in
set_option maxHeartbeats 4000000 in
theorem w_X3_append_39 (X : Cx p s m args meth c cX3_append RX3 5 none G cy) {out : Mem} {M : Mem} (hP : Pic G B cy nT M H) (hS : va_S (FB B) s.heap H locs) (hl : lv_has ls 5 [(0, .ref (B + 22))]) (h : f_X3_append_39 M = some out) : W p l e rmX3_append s m args below meth c H locs 0 0 (MQ below (Qv G B cy nT out) args s 0 0 (FB B)) (F0 m 39 ls []) := by
  obtain ⟨hx, hb, hr, hml, hown, hts, hKn, hlk⟩ := id X
  unfold f_X3_append_39 at h
  refine lv_aload_n hx hb dX3_append_39 rfl (lv_at hl 0 rfl) ?_
  refine lv_dup hx hb dX3_append_40 rfl ?_
  refine gf_X3_22 X hP dX3_append_41 ?_
  refine lv_iconst (v := 1) hx hb dX3_append_44 (by decide) ?_
  refine lv_iadd hx hb dX3_append_45 ?_
  obtain ⟨M_1, e_1, h⟩ := lt_el h
  refine pf_X3_22 X hP hS e_1 dX3_append_46 (fun H locs hP hS => ?_)
  exact r_vret X hP hS (pr0 h) dX3_append_49
def f_X3_append (M : Mem) (a1 : Int32) (a2 : Int32) (a3 : Int64) : Option (Mem) :=
  if 40 ≤ (gI M 22 3) then (f_X3_append_39 M) else (gd (inR (gI M 22 3) 40) <| lt (sI M 23 (gI M 22 3).toNatClampNeg a1) fun M_1 => gd (inR (gI M_1 22 3) 40) <| lt (sI M_1 24 (gI M_1 22 3).toNatClampNeg a2) fun M_2 => gd (inR (gI M_2 22 3) 40) <| lt (sL M_2 25 (gI M_2 22 3).toNatClampNeg a3) fun M_3 => f_X3_append_39 M_3)
set_option maxRecDepth 100000 in
set_option maxHeartbeats 4000000 in
theorem c_X3_append {l : Launch} {G : va_G} {cy : Nat → ClassId} {B nT : Nat} {M : Mem} {a1 : Int32} {a2 : Int32} {a3 : Int64} {out : Mem} (h : f_X3_append M a1 a2 a3 = some out) : Met l yX3_append (wsU yX3_append cX3_append 5 none) rmX3_append (va_Pc [.ref (B + 22), .int a1, .int a2, .long a3] (PU G B cy nT M)) (Qv G B cy nT out) 0 0 (FB B) := by
  refine r_met (by decide +kernel) RX3 rfl (Nat.le_of_ble_eq_true rfl) ?_
  intro p e s m args below meth c ls X hP hl
  have hl : lv_has ls 5 [(0, .ref (B + 22)), (1, .int a1), (2, .int a2), (3, .long a3)] := hl
  have hS : va_S (FB B) s.heap s.heap [] := va_S.rf
  obtain ⟨hx, hb, hr, hml, hown, hts, hKn, hlk⟩ := id X
  unfold f_X3_append at h
  refine lv_aload_n hx hb dX3_append_0 rfl (lv_at hl 0 rfl) ?_
  refine gf_X3_22 X hP dX3_append_1 ?_
  refine lv_bipush (v := 40) hx hb dX3_append_4 (by decide) ?_
  refine lv_icmp_ge (tgt := 39) hx hb dX3_append_6 (by decide) (fun hc => ?_) (fun hc => ?_)
  · replace h := if_elp h hc
    exact w_X3_append_39 X hP hS (lv_sub hl [0] rfl) h
  · replace h := if_eln h hc
    refine lv_aload_n hx hb dX3_append_9 rfl (lv_at hl 0 rfl) ?_
    refine gf_X3_9 X hP dX3_append_10 ?_
    refine lv_aload_n hx hb dX3_append_13 rfl (lv_at hl 0 rfl) ?_
    refine gf_X3_22 X hP dX3_append_14 ?_
    refine lv_iload_n hx hb dX3_append_17 rfl (lv_at hl 1 rfl) ?_
    obtain ⟨g_1, h⟩ := gd_el h
    obtain ⟨M_1, e_1, h⟩ := lt_el h
    refine r_iast X hP hS kq_23 g_1 e_1 dX3_append_18 (fun H locs hP hS => ?_)
    refine lv_aload_n hx hb dX3_append_19 rfl (lv_at hl 0 rfl) ?_
    refine gf_X3_15 X hP dX3_append_20 ?_
    refine lv_aload_n hx hb dX3_append_23 rfl (lv_at hl 0 rfl) ?_
    refine gf_X3_22 X hP dX3_append_24 ?_
    refine lv_iload_n hx hb dX3_append_27 rfl (lv_at hl 2 rfl) ?_
    obtain ⟨g_2, h⟩ := gd_el h
    obtain ⟨M_2, e_2, h⟩ := lt_el h
    refine r_iast X hP hS kq_24 g_2 e_2 dX3_append_28 (fun H locs hP hS => ?_)
    refine lv_aload_n hx hb dX3_append_29 rfl (lv_at hl 0 rfl) ?_
    refine gf_X3_18 X hP dX3_append_30 ?_
    refine lv_aload_n hx hb dX3_append_33 rfl (lv_at hl 0 rfl) ?_
    refine gf_X3_22 X hP dX3_append_34 ?_
    refine lv_lload_n hx hb dX3_append_37 rfl (lv_at hl 3 rfl) ?_
    obtain ⟨g_3, h⟩ := gd_el h
    obtain ⟨M_3, e_3, h⟩ := lt_el h
    refine r_last X hP hS kq_25 g_3 e_3 dX3_append_38 (fun H locs hP hS => ?_)
    exact w_X3_append_39 X hP hS (lv_sub hl [0] rfl) h
abbrev rmX3_keeps : Room := { frames := 0, cells := 0, slots := 0, locals := 0 }
def f_X3_keeps (M : Mem) (a1 : Int32) : Option (Bool) :=
  if a1 < 0 then (some false) else (if (gI M 22 3) ≤ a1 then (some false) else (if 40 ≤ a1 then (some false) else (some true)))
set_option maxRecDepth 100000 in
set_option maxHeartbeats 4000000 in
theorem c_X3_keeps {l : Launch} {G : va_G} {cy : Nat → ClassId} {B nT : Nat} {M : Mem} {a1 : Int32} {out : Bool} (h : f_X3_keeps M a1 = some out) : Met l yX3_keeps (wsU yX3_keeps cX3_keeps 2 (some .boolean)) rmX3_keeps (va_Pc [.ref (B + 22), .int a1] (PU G B cy nT M)) (Qi G B cy nT (bI out) M) 0 0 (FB B) := by
  refine r_met (by decide +kernel) RX3 rfl (Nat.le_of_ble_eq_true rfl) ?_
  intro p e s m args below meth c ls X hP hl
  have hl : lv_has ls 2 [(0, .ref (B + 22)), (1, .int a1)] := hl
  have hS : va_S (FB B) s.heap s.heap [] := va_S.rf
  obtain ⟨hx, hb, hr, hml, hown, hts, hKn, hlk⟩ := id X
  unfold f_X3_keeps at h
  refine lv_iload_n hx hb dX3_keeps_0 rfl (lv_at hl 1 rfl) ?_
  refine lv_if_lt (tgt := 22) hx hb dX3_keeps_1 (by decide) (fun hc => ?_) (fun hc => ?_)
  · replace h := if_elp h hc
    refine lv_iconst (v := 0) hx hb dX3_keeps_22 (by decide) ?_
    exact r_zret X hP hS rfl (prz h) rfl dX3_keeps_23
  · replace h := if_eln h hc
    refine lv_iload_n hx hb dX3_keeps_4 rfl (lv_at hl 1 rfl) ?_
    refine lv_aload_n hx hb dX3_keeps_5 rfl (lv_at hl 0 rfl) ?_
    refine gf_X3_22 X hP dX3_keeps_6 ?_
    refine lv_icmp_ge (tgt := 22) hx hb dX3_keeps_9 (by decide) (fun hc => ?_) (fun hc => ?_)
    · replace h := if_elp h hc
      refine lv_iconst (v := 0) hx hb dX3_keeps_22 (by decide) ?_
      exact r_zret X hP hS rfl (prz h) rfl dX3_keeps_23
    · replace h := if_eln h hc
      refine lv_iload_n hx hb dX3_keeps_12 rfl (lv_at hl 1 rfl) ?_
      refine lv_bipush (v := 40) hx hb dX3_keeps_13 (by decide) ?_
      refine lv_icmp_ge (tgt := 22) hx hb dX3_keeps_15 (by decide) (fun hc => ?_) (fun hc => ?_)
      · replace h := if_elp h hc
        refine lv_iconst (v := 0) hx hb dX3_keeps_22 (by decide) ?_
        exact r_zret X hP hS rfl (prz h) rfl dX3_keeps_23
      · replace h := if_eln h hc
        refine lv_iconst (v := 1) hx hb dX3_keeps_18 (by decide) ?_
        refine lv_goto (tgt := 23) hx hb dX3_keeps_19 (by decide) ?_
        exact r_zret X hP hS rfl (prz h) rfl dX3_keeps_23
abbrev rmX8_isKind : Room := { frames := 0, cells := 0, slots := 0, locals := 0 }
def f_X8_isKind (a0 : Int32) : Option (Bool) :=
  if a0 < 0 then (some false) else (if 8 ≤ a0 then (some false) else (some true))
set_option maxRecDepth 100000 in
set_option maxHeartbeats 4000000 in
theorem c_X8_isKind {l : Launch} {G : va_G} {cy : Nat → ClassId} {B nT : Nat} {M : Mem} {a0 : Int32} {out : Bool} (h : f_X8_isKind a0 = some out) : Met l yX8_isKind (wsU yX8_isKind cX8_isKind 1 (some .boolean)) rmX8_isKind (va_Pc [.int a0] (PU G B cy nT M)) (Qi G B cy nT (bI out) M) 0 0 (FB B) := by
  refine r_met (by decide +kernel) RX8 rfl (Nat.le_of_ble_eq_true rfl) ?_
  intro p e s m args below meth c ls X hP hl
  have hl : lv_has ls 1 [(0, .int a0)] := hl
  have hS : va_S (FB B) s.heap s.heap [] := va_S.rf
  obtain ⟨hx, hb, hr, hml, hown, hts, hKn, hlk⟩ := id X
  unfold f_X8_isKind at h
  refine lv_iload_n hx hb dX8_isKind_0 rfl (lv_at hl 0 rfl) ?_
  refine lv_if_lt (tgt := 14) hx hb dX8_isKind_1 (by decide) (fun hc => ?_) (fun hc => ?_)
  · replace h := if_elp h hc
    refine lv_iconst (v := 0) hx hb dX8_isKind_14 (by decide) ?_
    exact r_zret X hP hS rfl (prz h) rfl dX8_isKind_15
  · replace h := if_eln h hc
    refine lv_iload_n hx hb dX8_isKind_4 rfl (lv_at hl 0 rfl) ?_
    refine lv_bipush (v := 8) hx hb dX8_isKind_5 (by decide) ?_
    refine lv_icmp_ge (tgt := 14) hx hb dX8_isKind_7 (by decide) (fun hc => ?_) (fun hc => ?_)
    · replace h := if_elp h hc
      refine lv_iconst (v := 0) hx hb dX8_isKind_14 (by decide) ?_
      exact r_zret X hP hS rfl (prz h) rfl dX8_isKind_15
    · replace h := if_eln h hc
      refine lv_iconst (v := 1) hx hb dX8_isKind_10 (by decide) ?_
      refine lv_goto (tgt := 15) hx hb dX8_isKind_11 (by decide) ?_
      exact r_zret X hP hS rfl (prz h) rfl dX8_isKind_15
abbrev rmX8_isGrower : Room := { frames := 0, cells := 0, slots := 0, locals := 0 }
def f_X8_isGrower (a0 : Int32) : Option (Bool) :=
  if a0 < 0 then (some false) else (if 8 ≤ a0 then (some false) else (some true))
set_option maxRecDepth 100000 in
set_option maxHeartbeats 4000000 in
theorem c_X8_isGrower {l : Launch} {G : va_G} {cy : Nat → ClassId} {B nT : Nat} {M : Mem} {a0 : Int32} {out : Bool} (h : f_X8_isGrower a0 = some out) : Met l yX8_isGrower (wsU yX8_isGrower cX8_isGrower 1 (some .boolean)) rmX8_isGrower (va_Pc [.int a0] (PU G B cy nT M)) (Qi G B cy nT (bI out) M) 0 0 (FB B) := by
  refine r_met (by decide +kernel) RX8 rfl (Nat.le_of_ble_eq_true rfl) ?_
  intro p e s m args below meth c ls X hP hl
  have hl : lv_has ls 1 [(0, .int a0)] := hl
  have hS : va_S (FB B) s.heap s.heap [] := va_S.rf
  obtain ⟨hx, hb, hr, hml, hown, hts, hKn, hlk⟩ := id X
  unfold f_X8_isGrower at h
  refine lv_iload_n hx hb dX8_isGrower_0 rfl (lv_at hl 0 rfl) ?_
  refine lv_if_lt (tgt := 14) hx hb dX8_isGrower_1 (by decide) (fun hc => ?_) (fun hc => ?_)
  · replace h := if_elp h hc
    refine lv_iconst (v := 0) hx hb dX8_isGrower_14 (by decide) ?_
    exact r_zret X hP hS rfl (prz h) rfl dX8_isGrower_15
  · replace h := if_eln h hc
    refine lv_iload_n hx hb dX8_isGrower_4 rfl (lv_at hl 0 rfl) ?_
    refine lv_bipush (v := 8) hx hb dX8_isGrower_5 (by decide) ?_
    refine lv_icmp_ge (tgt := 14) hx hb dX8_isGrower_7 (by decide) (fun hc => ?_) (fun hc => ?_)
    · replace h := if_elp h hc
      refine lv_iconst (v := 0) hx hb dX8_isGrower_14 (by decide) ?_
      exact r_zret X hP hS rfl (prz h) rfl dX8_isGrower_15
    · replace h := if_eln h hc
      refine lv_iconst (v := 1) hx hb dX8_isGrower_10 (by decide) ?_
      refine lv_goto (tgt := 15) hx hb dX8_isGrower_11 (by decide) ?_
      exact r_zret X hP hS rfl (prz h) rfl dX8_isGrower_15
abbrev rmX4_fits : Room := { frames := 1, cells := 0, slots := 0, locals := 21 }
def f_X4_fits (a0 : Int32) (a1 : Int32) (a2 : Int32) : Option (Bool) :=
  if a0 = 0 then (Option.bind (f_X8_isCell (Int32.toInt64 a1)) fun r_1 => some r_1) else if a0 = 1 then (Option.bind (f_X8_isCell (Int32.toInt64 a1)) fun r_2 => if (bI r_2) = 0 then (some false) else (Option.bind (f_X8_isCell (Int32.toInt64 a2)) fun r_3 => if (bI r_3) = 0 then (some false) else (some true))) else if a0 = 2 then (Option.bind (f_X8_isKind a1) fun r_4 => some r_4) else if a0 = 3 then (Option.bind (f_X8_isGrower a1) fun r_5 => some r_5) else some false
set_option maxRecDepth 100000 in
set_option maxHeartbeats 4000000 in
theorem c_X4_fits {l : Launch} {G : va_G} {cy : Nat → ClassId} {B nT : Nat} {M : Mem} {a0 : Int32} {a1 : Int32} {a2 : Int32} {out : Bool} (h : f_X4_fits a0 a1 a2 = some out) : Met l yX4_fits (wsU yX4_fits cX4_fits 3 (some .boolean)) rmX4_fits (va_Pc [.int a0, .int a1, .int a2] (PU G B cy nT M)) (Qi G B cy nT (bI out) M) 0 0 (FB B) := by
  refine r_met (by decide +kernel) RX4 rfl (Nat.le_of_ble_eq_true rfl) ?_
  intro p e s m args below meth c ls X hP hl
  have hl : lv_has ls 3 [(0, .int a0), (1, .int a1), (2, .int a2)] := hl
  have hS : va_S (FB B) s.heap s.heap [] := va_S.rf
  obtain ⟨hx, hb, hr, hml, hown, hts, hKn, hlk⟩ := id X
  unfold f_X4_fits at h
  refine lv_iload_n hx hb dX4_fits_0 rfl (lv_at hl 0 rfl) ?_
  by_cases h_1 : a0 = 0
  · replace h := if_elp h h_1
    refine lv_tableIn (off := 31) (tgt := 32) hx hb dX4_fits_1 (by rw [h_1]; decide) (by rw [h_1]; decide) (by rw [h_1]; rfl) (by decide) ?_
    refine lv_iload_n hx hb dX4_fits_32 rfl (lv_at hl 1 rfl) ?_
    refine lv_i2l (v := (Int32.toInt64 a1)) hx hb dX4_fits_33 rfl ?_
    obtain ⟨r_1, h_2, h⟩ := bd_el h
    refine cl_i (rn_SN X hP (c_X8_isCell h_2) nst_X4_25 k_187 k_1 k_188 hd_X8_isCell (n := 1) ⟨⟨rfl, rfl⟩, Nat.le_of_ble_eq_true rfl, Nat.le_of_ble_eq_true rfl⟩ (As := [.long (Int32.toInt64 a1)]) (rest := []) rfl hl.1 rfl (Nat.le_of_ble_eq_true rfl) dX4_fits_34 ⟨Nat.zero_le _, Nat.zero_le _⟩) hS (fun H locs hP hS => ?_)
    exact r_zret X hP hS (nar_bI _) (prz h) rfl dX4_fits_37
  · replace h := if_eln h h_1
    by_cases h_3 : a0 = 1
    · replace h := if_elp h h_3
      refine lv_tableIn (off := 37) (tgt := 38) hx hb dX4_fits_1 (by rw [h_3]; decide) (by rw [h_3]; decide) (by rw [h_3]; rfl) (by decide) ?_
      refine lv_iload_n hx hb dX4_fits_38 rfl (lv_at hl 1 rfl) ?_
      refine lv_i2l (v := (Int32.toInt64 a1)) hx hb dX4_fits_39 rfl ?_
      obtain ⟨r_2, h_4, h⟩ := bd_el h
      refine cl_i (rn_SN X hP (c_X8_isCell h_4) nst_X4_25 k_187 k_1 k_188 hd_X8_isCell (n := 1) ⟨⟨rfl, rfl⟩, Nat.le_of_ble_eq_true rfl, Nat.le_of_ble_eq_true rfl⟩ (As := [.long (Int32.toInt64 a1)]) (rest := []) rfl hl.1 rfl (Nat.le_of_ble_eq_true rfl) dX4_fits_40 ⟨Nat.zero_le _, Nat.zero_le _⟩) hS (fun H locs hP hS => ?_)
      refine lv_if_eq (tgt := 58) hx hb dX4_fits_43 (by decide) (fun hc => ?_) (fun hc => ?_)
      · replace h := if_elp h hc
        refine lv_iconst (v := 0) hx hb dX4_fits_58 (by decide) ?_
        exact r_zret X hP hS rfl (prz h) rfl dX4_fits_59
      · replace h := if_eln h hc
        refine lv_iload_n hx hb dX4_fits_46 rfl (lv_at hl 2 rfl) ?_
        refine lv_i2l (v := (Int32.toInt64 a2)) hx hb dX4_fits_47 rfl ?_
        obtain ⟨r_3, h_5, h⟩ := bd_el h
        refine cl_i (rn_SN X hP (c_X8_isCell h_5) nst_X4_25 k_187 k_1 k_188 hd_X8_isCell (n := 1) ⟨⟨rfl, rfl⟩, Nat.le_of_ble_eq_true rfl, Nat.le_of_ble_eq_true rfl⟩ (As := [.long (Int32.toInt64 a2)]) (rest := []) rfl hl.1 rfl (Nat.le_of_ble_eq_true rfl) dX4_fits_48 ⟨Nat.zero_le _, Nat.zero_le _⟩) hS (fun H locs hP hS => ?_)
        refine lv_if_eq (tgt := 58) hx hb dX4_fits_51 (by decide) (fun hc => ?_) (fun hc => ?_)
        · replace h := if_elp h hc
          refine lv_iconst (v := 0) hx hb dX4_fits_58 (by decide) ?_
          exact r_zret X hP hS rfl (prz h) rfl dX4_fits_59
        · replace h := if_eln h hc
          refine lv_iconst (v := 1) hx hb dX4_fits_54 (by decide) ?_
          refine lv_goto (tgt := 59) hx hb dX4_fits_55 (by decide) ?_
          exact r_zret X hP hS rfl (prz h) rfl dX4_fits_59
    · replace h := if_eln h h_3
      by_cases h_6 : a0 = 2
      · replace h := if_elp h h_6
        refine lv_tableIn (off := 59) (tgt := 60) hx hb dX4_fits_1 (by rw [h_6]; decide) (by rw [h_6]; decide) (by rw [h_6]; rfl) (by decide) ?_
        refine lv_iload_n hx hb dX4_fits_60 rfl (lv_at hl 1 rfl) ?_
        obtain ⟨r_4, h_7, h⟩ := bd_el h
        refine cl_i (rn_SN X hP (c_X8_isKind h_7) nst_X4_29 k_211 k_1 k_212 hd_X8_isKind (n := 1) ⟨⟨rfl, rfl⟩, Nat.le_of_ble_eq_true rfl, Nat.le_of_ble_eq_true rfl⟩ (As := [.int a1]) (rest := []) rfl hl.1 rfl (Nat.le_of_ble_eq_true rfl) dX4_fits_61 ⟨Nat.zero_le _, Nat.zero_le _⟩) hS (fun H locs hP hS => ?_)
        exact r_zret X hP hS (nar_bI _) (prz h) rfl dX4_fits_64
      · replace h := if_eln h h_6
        by_cases h_8 : a0 = 3
        · replace h := if_elp h h_8
          refine lv_tableIn (off := 64) (tgt := 65) hx hb dX4_fits_1 (by rw [h_8]; decide) (by rw [h_8]; decide) (by rw [h_8]; rfl) (by decide) ?_
          refine lv_iload_n hx hb dX4_fits_65 rfl (lv_at hl 1 rfl) ?_
          obtain ⟨r_5, h_9, h⟩ := bd_el h
          refine cl_i (rn_SN X hP (c_X8_isGrower h_9) nst_X4_33 k_214 k_1 k_215 hd_X8_isGrower (n := 1) ⟨⟨rfl, rfl⟩, Nat.le_of_ble_eq_true rfl, Nat.le_of_ble_eq_true rfl⟩ (As := [.int a1]) (rest := []) rfl hl.1 rfl (Nat.le_of_ble_eq_true rfl) dX4_fits_66 ⟨Nat.zero_le _, Nat.zero_le _⟩) hS (fun H locs hP hS => ?_)
          exact r_zret X hP hS (nar_bI _) (prz h) rfl dX4_fits_69
        · replace h := if_eln h h_8
          refine lv_tableOut (tgt := 70) hx hb dX4_fits_1 (by have z0 := lv_neT (a := 0) h_1 rfl; have z1 := lv_neT (a := 1) h_3 rfl; have z2 := lv_neT (a := 2) h_6 rfl; have z3 := lv_neT (a := 3) h_8 rfl; omega) (by decide) ?_
          refine lv_iconst (v := 0) hx hb dX4_fits_70 (by decide) ?_
          exact r_zret X hP hS rfl (prz h) rfl dX4_fits_71
abbrev rmX4_append : Room := { frames := 0, cells := 0, slots := 0, locals := 0 }
def f_X4_append (M : Mem) (a1 : Int32) (a2 : Int32) (a3 : Int32) (a4 : Int64) : Option (Int32 × Mem) :=
  gd (inR (gI M 17 4) 10) <| lt (sI M 18 (gI M 17 4).toNatClampNeg a1) fun M_1 => gd (inR (gI M_1 17 4) 10) <| lt (sI M_1 19 (gI M_1 17 4).toNatClampNeg a2) fun M_2 => gd (inR (gI M_2 17 4) 10) <| lt (sI M_2 20 (gI M_2 17 4).toNatClampNeg a3) fun M_3 => gd (inR (gI M_3 17 4) 10) <| lt (sL M_3 21 (gI M_3 17 4).toNatClampNeg a4) fun M_4 => lt (sI M_4 17 4 ((gI M_4 17 4) + 1)) fun M_5 => some (((gI M_5 17 4) - 1), M_5)
set_option maxRecDepth 100000 in
set_option maxHeartbeats 4000000 in
theorem c_X4_append {l : Launch} {G : va_G} {cy : Nat → ClassId} {B nT : Nat} {M : Mem} {a1 : Int32} {a2 : Int32} {a3 : Int32} {a4 : Int64} {out : Int32 × Mem} (h : f_X4_append M a1 a2 a3 a4 = some out) : Met l yX4_append (wsU yX4_append cX4_append 6 (some .int)) rmX4_append (va_Pc [.ref (B + 17), .int a1, .int a2, .int a3, .long a4] (PU G B cy nT M)) (Qi G B cy nT out.1 out.2) 0 0 (FB B) := by
  refine r_met (by decide +kernel) RX4 rfl (Nat.le_of_ble_eq_true rfl) ?_
  intro p e s m args below meth c ls X hP hl
  have hl : lv_has ls 6 [(0, .ref (B + 17)), (1, .int a1), (2, .int a2), (3, .int a3), (4, .long a4)] := hl
  have hS : va_S (FB B) s.heap s.heap [] := va_S.rf
  obtain ⟨hx, hb, hr, hml, hown, hts, hKn, hlk⟩ := id X
  unfold f_X4_append at h
  refine lv_aload_n hx hb dX4_append_0 rfl (lv_at hl 0 rfl) ?_
  refine gf_X4_9 X hP dX4_append_1 ?_
  refine lv_aload_n hx hb dX4_append_4 rfl (lv_at hl 0 rfl) ?_
  refine gf_X4_36 X hP dX4_append_5 ?_
  refine lv_iload_n hx hb dX4_append_8 rfl (lv_at hl 1 rfl) ?_
  obtain ⟨g_1, h⟩ := gd_el h
  obtain ⟨M_1, e_1, h⟩ := lt_el h
  refine r_iast X hP hS kq_18 g_1 e_1 dX4_append_9 (fun H locs hP hS => ?_)
  refine lv_aload_n hx hb dX4_append_10 rfl (lv_at hl 0 rfl) ?_
  refine gf_X4_15 X hP dX4_append_11 ?_
  refine lv_aload_n hx hb dX4_append_14 rfl (lv_at hl 0 rfl) ?_
  refine gf_X4_36 X hP dX4_append_15 ?_
  refine lv_iload_n hx hb dX4_append_18 rfl (lv_at hl 2 rfl) ?_
  obtain ⟨g_2, h⟩ := gd_el h
  obtain ⟨M_2, e_2, h⟩ := lt_el h
  refine r_iast X hP hS kq_19 g_2 e_2 dX4_append_19 (fun H locs hP hS => ?_)
  refine lv_aload_n hx hb dX4_append_20 rfl (lv_at hl 0 rfl) ?_
  refine gf_X4_18 X hP dX4_append_21 ?_
  refine lv_aload_n hx hb dX4_append_24 rfl (lv_at hl 0 rfl) ?_
  refine gf_X4_36 X hP dX4_append_25 ?_
  refine lv_iload_n hx hb dX4_append_28 rfl (lv_at hl 3 rfl) ?_
  obtain ⟨g_3, h⟩ := gd_el h
  obtain ⟨M_3, e_3, h⟩ := lt_el h
  refine r_iast X hP hS kq_20 g_3 e_3 dX4_append_29 (fun H locs hP hS => ?_)
  refine lv_aload_n hx hb dX4_append_30 rfl (lv_at hl 0 rfl) ?_
  refine gf_X4_21 X hP dX4_append_31 ?_
  refine lv_aload_n hx hb dX4_append_34 rfl (lv_at hl 0 rfl) ?_
  refine gf_X4_36 X hP dX4_append_35 ?_
  refine lv_lload hx hb dX4_append_38 (lv_at hl 4 rfl) ?_
  obtain ⟨g_4, h⟩ := gd_el h
  obtain ⟨M_4, e_4, h⟩ := lt_el h
  refine r_last X hP hS kq_21 g_4 e_4 dX4_append_40 (fun H locs hP hS => ?_)
  refine lv_aload_n hx hb dX4_append_41 rfl (lv_at hl 0 rfl) ?_
  refine lv_dup hx hb dX4_append_42 rfl ?_
  refine gf_X4_36 X hP dX4_append_43 ?_
  refine lv_iconst (v := 1) hx hb dX4_append_46 (by decide) ?_
  refine lv_iadd hx hb dX4_append_47 ?_
  obtain ⟨M_5, e_5, h⟩ := lt_el h
  refine pf_X4_36 X hP hS e_5 dX4_append_48 (fun H locs hP hS => ?_)
  refine lv_aload_n hx hb dX4_append_51 rfl (lv_at hl 0 rfl) ?_
  refine gf_X4_36 X hP dX4_append_52 ?_
  refine lv_iconst (v := 1) hx hb dX4_append_55 (by decide) ?_
  refine lv_isub hx hb dX4_append_56 ?_
  exact r_iret X hP hS (pr1 h) (pr2 h) dX4_append_57
abbrev rmX4_isKept : Room := { frames := 1, cells := 0, slots := 0, locals := 24 }
def f_X4_isKept_68 (q2 : Nat) (M : Mem) : Option (Bool) :=
  some true
set_option maxRecDepth 100000 in
set_option maxHeartbeats 4000000 in
theorem w_X4_isKept_68 (X : Cx p s m args meth c cX4_isKept RX4 3 (some .boolean) G cy) {q2 : Nat} (hq2 : isC q2) {M : Mem} {out : Bool} (hP : Pic G B cy nT M H) (hS : va_S (FB B) s.heap H locs) (hl : lv_has ls 3 []) (h : f_X4_isKept_68 q2 M = some out) : W p l e rmX4_isKept s m args below meth c H locs 0 0 (MQ below (Qi G B cy nT (bI out) M) args s 0 0 (FB B)) (F0 m 68 ls []) := by
  obtain ⟨hx, hb, hr, hml, hown, hts, hKn, hlk⟩ := id X
  unfold f_X4_isKept_68 at h
  refine lv_iconst (v := 1) hx hb dX4_isKept_68 (by decide) ?_
  refine lv_goto (tgt := 73) hx hb dX4_isKept_69 (by decide) ?_
  exact r_zret X hP hS rfl (prz h) rfl dX4_isKept_73
def f_X4_isKept_130 (q2 : Nat) (M : Mem) : Option (Bool) :=
  some true
set_option maxRecDepth 100000 in
set_option maxHeartbeats 4000000 in
theorem w_X4_isKept_130 (X : Cx p s m args meth c cX4_isKept RX4 3 (some .boolean) G cy) {q2 : Nat} (hq2 : isC q2) {M : Mem} {out : Bool} (hP : Pic G B cy nT M H) (hS : va_S (FB B) s.heap H locs) (hl : lv_has ls 3 []) (h : f_X4_isKept_130 q2 M = some out) : W p l e rmX4_isKept s m args below meth c H locs 0 0 (MQ below (Qi G B cy nT (bI out) M) args s 0 0 (FB B)) (F0 m 130 ls []) := by
  obtain ⟨hx, hb, hr, hml, hown, hts, hKn, hlk⟩ := id X
  unfold f_X4_isKept_130 at h
  refine lv_iconst (v := 1) hx hb dX4_isKept_130 (by decide) ?_
  refine lv_goto (tgt := 135) hx hb dX4_isKept_131 (by decide) ?_
  exact r_zret X hP hS rfl (prz h) rfl dX4_isKept_135
def f_X4_isKept (q2 : Nat) (M : Mem) (a1 : Int32) : Option (Bool) :=
  gd (inR a1 10) <| if (gI M 18 a1.toNatClampNeg) = 0 then (gd (inR a1 10) <| gd (inR (gI M 19 a1.toNatClampNeg) 40) <| if (gI M (q2 + 1) (gI M 19 a1.toNatClampNeg).toNatClampNeg) = 1 then (gd (inR a1 10) <| gd (inR (gI M 19 a1.toNatClampNeg) 40) <| gd (inR a1 10) <| if (gL M (q2 + 2) (gI M 19 a1.toNatClampNeg).toNatClampNeg) < (gL M 21 a1.toNatClampNeg) then (some false) else (f_X4_isKept_68 q2 M)) else (f_X4_isKept_68 q2 M)) else if (gI M 18 a1.toNatClampNeg) = 1 then (gd (inR a1 10) <| gd (inR (gI M 19 a1.toNatClampNeg) 40) <| if (gI M (q2 + 1) (gI M 19 a1.toNatClampNeg).toNatClampNeg) = 1 then (gd (inR a1 10) <| gd (inR (gI M 20 a1.toNatClampNeg) 40) <| if (gI M (q2 + 1) (gI M 20 a1.toNatClampNeg).toNatClampNeg) = 1 then (gd (inR a1 10) <| gd (inR (gI M 19 a1.toNatClampNeg) 40) <| gd (inR a1 10) <| gd (inR (gI M 20 a1.toNatClampNeg) 40) <| if (gL M (q2 + 2) (gI M 20 a1.toNatClampNeg).toNatClampNeg) < (gL M (q2 + 2) (gI M 19 a1.toNatClampNeg).toNatClampNeg) then (some false) else (f_X4_isKept_130 q2 M)) else (f_X4_isKept_130 q2 M)) else (f_X4_isKept_130 q2 M)) else if (gI M 18 a1.toNatClampNeg) = 2 then (gd (inR a1 10) <| Option.bind (f_X1_gramsOfKind q2 M (gI M 19 a1.toNatClampNeg)) fun r_1 => gd (inR a1 10) <| if r_1 < (gL M 21 a1.toNatClampNeg) then (some false) else (some true)) else gd (inR a1 10) <| Option.bind (f_X1_gramsOfGrower q2 M (gI M 19 a1.toNatClampNeg)) fun r_2 => gd (inR a1 10) <| if r_2 < (gL M 21 a1.toNatClampNeg) then (some false) else (some true)
set_option maxRecDepth 100000 in
set_option maxHeartbeats 4000000 in
theorem c_X4_isKept {l : Launch} {G : va_G} {cy : Nat → ClassId} {B nT : Nat} {q2 : Nat} (hq2 : isC q2) {M : Mem} {a1 : Int32} {out : Bool} (h : f_X4_isKept q2 M a1 = some out) : Met l yX4_isKept (wsU yX4_isKept cX4_isKept 3 (some .boolean)) rmX4_isKept (va_Pc [.ref (B + 17), .int a1, .ref (B + q2)] (PU G B cy nT M)) (Qi G B cy nT (bI out) M) 0 0 (FB B) := by
  refine r_met (by decide +kernel) RX4 rfl (Nat.le_of_ble_eq_true rfl) ?_
  intro p e s m args below meth c ls X hP hl
  have hl : lv_has ls 3 [(0, .ref (B + 17)), (1, .int a1), (2, .ref (B + q2))] := hl
  have hS : va_S (FB B) s.heap s.heap [] := va_S.rf
  obtain ⟨hx, hb, hr, hml, hown, hts, hKn, hlk⟩ := id X
  unfold f_X4_isKept at h
  refine lv_aload_n hx hb dX4_isKept_0 rfl (lv_at hl 0 rfl) ?_
  refine gf_X4_9 X hP dX4_isKept_1 ?_
  refine lv_iload_n hx hb dX4_isKept_4 rfl (lv_at hl 1 rfl) ?_
  obtain ⟨g_1, h⟩ := gd_el h
  refine r_iald X hP kq_18 g_1 dX4_isKept_5 ?_
  by_cases h_1 : (gI M 18 a1.toNatClampNeg) = 0
  · replace h := if_elp h h_1
    refine lv_tableIn (off := 26) (tgt := 32) hx hb dX4_isKept_6 (by rw [h_1]; decide) (by rw [h_1]; decide) (by rw [h_1]; rfl) (by decide) ?_
    refine lv_aload_n hx hb dX4_isKept_32 rfl (lv_at hl 2 rfl) ?_
    refine gf_X4_44 X hP (kC_0 hq2) dX4_isKept_33 ?_
    refine lv_aload_n hx hb dX4_isKept_36 rfl (lv_at hl 0 rfl) ?_
    refine gf_X4_15 X hP dX4_isKept_37 ?_
    refine lv_iload_n hx hb dX4_isKept_40 rfl (lv_at hl 1 rfl) ?_
    obtain ⟨g_2, h⟩ := gd_el h
    refine r_iald X hP kq_19 g_2 dX4_isKept_41 ?_
    obtain ⟨g_3, h⟩ := gd_el h
    refine r_iald X hP (kC_1 hq2) g_3 dX4_isKept_42 ?_
    refine lv_iconst (v := 1) hx hb dX4_isKept_43 (by decide) ?_
    refine lv_icmp_ne (tgt := 68) hx hb dX4_isKept_44 (by decide) (fun hc => ?_) (fun hc => ?_)
    · replace h := if_eln h hc
      exact w_X4_isKept_68 X hq2 hP hS (lv_sub hl [] rfl) h
    · replace h := if_elp h hc
      refine lv_aload_n hx hb dX4_isKept_47 rfl (lv_at hl 2 rfl) ?_
      refine gf_X4_49 X hP (kC_0 hq2) dX4_isKept_48 ?_
      refine lv_aload_n hx hb dX4_isKept_51 rfl (lv_at hl 0 rfl) ?_
      refine gf_X4_15 X hP dX4_isKept_52 ?_
      refine lv_iload_n hx hb dX4_isKept_55 rfl (lv_at hl 1 rfl) ?_
      obtain ⟨g_4, h⟩ := gd_el h
      refine r_iald X hP kq_19 g_4 dX4_isKept_56 ?_
      obtain ⟨g_5, h⟩ := gd_el h
      refine r_lald X hP (kC_2 hq2) g_5 dX4_isKept_57 ?_
      refine lv_aload_n hx hb dX4_isKept_58 rfl (lv_at hl 0 rfl) ?_
      refine gf_X4_21 X hP dX4_isKept_59 ?_
      refine lv_iload_n hx hb dX4_isKept_62 rfl (lv_at hl 1 rfl) ?_
      obtain ⟨g_6, h⟩ := gd_el h
      refine r_lald X hP kq_21 g_6 dX4_isKept_63 ?_
      refine W.lcmp hx hb dX4_isKept_64 ?_
      refine lv_if_lt (tgt := 72) hx hb dX4_isKept_65 (by decide) (fun hc => ?_) (fun hc => ?_)
      · replace h := if_elp h (lc_lt.mp hc)
        refine lv_iconst (v := 0) hx hb dX4_isKept_72 (by decide) ?_
        exact r_zret X hP hS rfl (prz h) rfl dX4_isKept_73
      · replace h := if_eln h (fun z => hc (lc_lt.mpr z))
        exact w_X4_isKept_68 X hq2 hP hS (lv_sub hl [] rfl) h
  · replace h := if_eln h h_1
    by_cases h_2 : (gI M 18 a1.toNatClampNeg) = 1
    · replace h := if_elp h h_2
      refine lv_tableIn (off := 68) (tgt := 74) hx hb dX4_isKept_6 (by rw [h_2]; decide) (by rw [h_2]; decide) (by rw [h_2]; rfl) (by decide) ?_
      refine lv_aload_n hx hb dX4_isKept_74 rfl (lv_at hl 2 rfl) ?_
      refine gf_X4_44 X hP (kC_0 hq2) dX4_isKept_75 ?_
      refine lv_aload_n hx hb dX4_isKept_78 rfl (lv_at hl 0 rfl) ?_
      refine gf_X4_15 X hP dX4_isKept_79 ?_
      refine lv_iload_n hx hb dX4_isKept_82 rfl (lv_at hl 1 rfl) ?_
      obtain ⟨g_7, h⟩ := gd_el h
      refine r_iald X hP kq_19 g_7 dX4_isKept_83 ?_
      obtain ⟨g_8, h⟩ := gd_el h
      refine r_iald X hP (kC_1 hq2) g_8 dX4_isKept_84 ?_
      refine lv_iconst (v := 1) hx hb dX4_isKept_85 (by decide) ?_
      refine lv_icmp_ne (tgt := 130) hx hb dX4_isKept_86 (by decide) (fun hc => ?_) (fun hc => ?_)
      · replace h := if_eln h hc
        exact w_X4_isKept_130 X hq2 hP hS (lv_sub hl [] rfl) h
      · replace h := if_elp h hc
        refine lv_aload_n hx hb dX4_isKept_89 rfl (lv_at hl 2 rfl) ?_
        refine gf_X4_44 X hP (kC_0 hq2) dX4_isKept_90 ?_
        refine lv_aload_n hx hb dX4_isKept_93 rfl (lv_at hl 0 rfl) ?_
        refine gf_X4_18 X hP dX4_isKept_94 ?_
        refine lv_iload_n hx hb dX4_isKept_97 rfl (lv_at hl 1 rfl) ?_
        obtain ⟨g_9, h⟩ := gd_el h
        refine r_iald X hP kq_20 g_9 dX4_isKept_98 ?_
        obtain ⟨g_10, h⟩ := gd_el h
        refine r_iald X hP (kC_1 hq2) g_10 dX4_isKept_99 ?_
        refine lv_iconst (v := 1) hx hb dX4_isKept_100 (by decide) ?_
        refine lv_icmp_ne (tgt := 130) hx hb dX4_isKept_101 (by decide) (fun hc => ?_) (fun hc => ?_)
        · replace h := if_eln h hc
          exact w_X4_isKept_130 X hq2 hP hS (lv_sub hl [] rfl) h
        · replace h := if_elp h hc
          refine lv_aload_n hx hb dX4_isKept_104 rfl (lv_at hl 2 rfl) ?_
          refine gf_X4_49 X hP (kC_0 hq2) dX4_isKept_105 ?_
          refine lv_aload_n hx hb dX4_isKept_108 rfl (lv_at hl 0 rfl) ?_
          refine gf_X4_15 X hP dX4_isKept_109 ?_
          refine lv_iload_n hx hb dX4_isKept_112 rfl (lv_at hl 1 rfl) ?_
          obtain ⟨g_11, h⟩ := gd_el h
          refine r_iald X hP kq_19 g_11 dX4_isKept_113 ?_
          obtain ⟨g_12, h⟩ := gd_el h
          refine r_lald X hP (kC_2 hq2) g_12 dX4_isKept_114 ?_
          refine lv_aload_n hx hb dX4_isKept_115 rfl (lv_at hl 2 rfl) ?_
          refine gf_X4_49 X hP (kC_0 hq2) dX4_isKept_116 ?_
          refine lv_aload_n hx hb dX4_isKept_119 rfl (lv_at hl 0 rfl) ?_
          refine gf_X4_18 X hP dX4_isKept_120 ?_
          refine lv_iload_n hx hb dX4_isKept_123 rfl (lv_at hl 1 rfl) ?_
          obtain ⟨g_13, h⟩ := gd_el h
          refine r_iald X hP kq_20 g_13 dX4_isKept_124 ?_
          obtain ⟨g_14, h⟩ := gd_el h
          refine r_lald X hP (kC_2 hq2) g_14 dX4_isKept_125 ?_
          refine W.lcmp hx hb dX4_isKept_126 ?_
          refine lv_if_gt (tgt := 134) hx hb dX4_isKept_127 (by decide) (fun hc => ?_) (fun hc => ?_)
          · replace h := if_elp h (lc_gt.mp hc)
            refine lv_iconst (v := 0) hx hb dX4_isKept_134 (by decide) ?_
            exact r_zret X hP hS rfl (prz h) rfl dX4_isKept_135
          · replace h := if_eln h (fun z => hc (lc_gt.mpr z))
            exact w_X4_isKept_130 X hq2 hP hS (lv_sub hl [] rfl) h
    · replace h := if_eln h h_2
      by_cases h_3 : (gI M 18 a1.toNatClampNeg) = 2
      · replace h := if_elp h h_3
        refine lv_tableIn (off := 130) (tgt := 136) hx hb dX4_isKept_6 (by rw [h_3]; decide) (by rw [h_3]; decide) (by rw [h_3]; rfl) (by decide) ?_
        refine lv_aload_n hx hb dX4_isKept_136 rfl (lv_at hl 2 rfl) ?_
        refine lv_aload_n hx hb dX4_isKept_137 rfl (lv_at hl 0 rfl) ?_
        refine gf_X4_15 X hP dX4_isKept_138 ?_
        refine lv_iload_n hx hb dX4_isKept_141 rfl (lv_at hl 1 rfl) ?_
        obtain ⟨g_15, h⟩ := gd_el h
        refine r_iald X hP kq_19 g_15 dX4_isKept_142 ?_
        obtain ⟨r_1, h_4, h⟩ := bd_el h
        refine cl_l (rn_V (C := RX1) (ci := 1) X hP (c_X1_gramsOfKind hq2 h_4) (kC_0 hq2) rfl k_460 k_242 k_243 k_3 k_244 rfl hd_X1_gramsOfKind (n := 1) ⟨⟨rfl, rfl⟩, Nat.le_of_ble_eq_true rfl, Nat.le_of_ble_eq_true rfl⟩ (As := [.int (gI M 19 a1.toNatClampNeg)]) (rest := []) rfl hl.1 rfl (Nat.le_of_ble_eq_true rfl) dX4_isKept_143 ⟨Nat.zero_le _, Nat.zero_le _⟩) hS (fun H locs hP hS => ?_)
        refine lv_aload_n hx hb dX4_isKept_146 rfl (lv_at hl 0 rfl) ?_
        refine gf_X4_21 X hP dX4_isKept_147 ?_
        refine lv_iload_n hx hb dX4_isKept_150 rfl (lv_at hl 1 rfl) ?_
        obtain ⟨g_16, h⟩ := gd_el h
        refine r_lald X hP kq_21 g_16 dX4_isKept_151 ?_
        refine W.lcmp hx hb dX4_isKept_152 ?_
        refine lv_if_lt (tgt := 160) hx hb dX4_isKept_153 (by decide) (fun hc => ?_) (fun hc => ?_)
        · replace h := if_elp h (lc_lt.mp hc)
          refine lv_iconst (v := 0) hx hb dX4_isKept_160 (by decide) ?_
          exact r_zret X hP hS rfl (prz h) rfl dX4_isKept_161
        · replace h := if_eln h (fun z => hc (lc_lt.mpr z))
          refine lv_iconst (v := 1) hx hb dX4_isKept_156 (by decide) ?_
          refine lv_goto (tgt := 161) hx hb dX4_isKept_157 (by decide) ?_
          exact r_zret X hP hS rfl (prz h) rfl dX4_isKept_161
      · replace h := if_eln h h_3
        refine lv_tableOut (tgt := 162) hx hb dX4_isKept_6 (by have z0 := lv_neT (a := 0) h_1 rfl; have z1 := lv_neT (a := 1) h_2 rfl; have z2 := lv_neT (a := 2) h_3 rfl; omega) (by decide) ?_
        refine lv_aload_n hx hb dX4_isKept_162 rfl (lv_at hl 2 rfl) ?_
        refine lv_aload_n hx hb dX4_isKept_163 rfl (lv_at hl 0 rfl) ?_
        refine gf_X4_15 X hP dX4_isKept_164 ?_
        refine lv_iload_n hx hb dX4_isKept_167 rfl (lv_at hl 1 rfl) ?_
        obtain ⟨g_17, h⟩ := gd_el h
        refine r_iald X hP kq_19 g_17 dX4_isKept_168 ?_
        obtain ⟨r_2, h_5, h⟩ := bd_el h
        refine cl_l (rn_V (C := RX1) (ci := 1) X hP (c_X1_gramsOfGrower hq2 h_5) (kC_0 hq2) rfl k_461 k_246 k_247 k_3 k_248 rfl hd_X1_gramsOfGrower (n := 1) ⟨⟨rfl, rfl⟩, Nat.le_of_ble_eq_true rfl, Nat.le_of_ble_eq_true rfl⟩ (As := [.int (gI M 19 a1.toNatClampNeg)]) (rest := []) rfl hl.1 rfl (Nat.le_of_ble_eq_true rfl) dX4_isKept_169 ⟨Nat.zero_le _, Nat.zero_le _⟩) hS (fun H locs hP hS => ?_)
        refine lv_aload_n hx hb dX4_isKept_172 rfl (lv_at hl 0 rfl) ?_
        refine gf_X4_21 X hP dX4_isKept_173 ?_
        refine lv_iload_n hx hb dX4_isKept_176 rfl (lv_at hl 1 rfl) ?_
        obtain ⟨g_18, h⟩ := gd_el h
        refine r_lald X hP kq_21 g_18 dX4_isKept_177 ?_
        refine W.lcmp hx hb dX4_isKept_178 ?_
        refine lv_if_lt (tgt := 186) hx hb dX4_isKept_179 (by decide) (fun hc => ?_) (fun hc => ?_)
        · replace h := if_elp h (lc_lt.mp hc)
          refine lv_iconst (v := 0) hx hb dX4_isKept_186 (by decide) ?_
          exact r_zret X hP hS rfl (prz h) rfl dX4_isKept_187
        · replace h := if_eln h (fun z => hc (lc_lt.mpr z))
          refine lv_iconst (v := 1) hx hb dX4_isKept_182 (by decide) ?_
          refine lv_goto (tgt := 187) hx hb dX4_isKept_183 (by decide) ?_
          exact r_zret X hP hS rfl (prz h) rfl dX4_isKept_187
end METHS

section METHS
variable {p : Program} {l : Launch} {e : Env} {s : State} {m : MethodId} {args : Array Value} {below : List Frame} {meth : Method} {c : Code} {H : Heap} {locs : List Loc} {G : va_G} {cy : Nat → ClassId} {B nT : Nat} {ls : Array Slot}
abbrev rmX9_give : Room := { frames := 2, cells := 0, slots := 0, locals := 45 }
def f_X9_give_91 (M : Mem) : Option (Mem) :=
  lt (sI M 119 78 6) fun M_1 => some M_1
set_option maxRecDepth 100000 in
set_option maxHeartbeats 4000000 in
theorem w_X9_give_91 (X : Cx p s m args meth c cX9_give RX9 7 none G cy) {out : Mem} {M : Mem} (hP : Pic G B cy nT M H) (hS : va_S (FB B) s.heap H locs) (hl : lv_has ls 7 [(0, .ref (B + 119))]) (h : f_X9_give_91 M = some out) : W p l e rmX9_give s m args below meth c H locs 0 0 (MQ below (Qv G B cy nT out) args s 0 0 (FB B)) (F0 m 91 ls []) := by
  obtain ⟨hx, hb, hr, hml, hown, hts, hKn, hlk⟩ := id X
  unfold f_X9_give_91 at h
  refine lv_aload_n hx hb dX9_give_91 rfl (lv_at hl 0 rfl) ?_
  refine lv_bipush (v := 6) hx hb dX9_give_92 (by decide) ?_
  obtain ⟨M_1, e_1, h⟩ := lt_el h
  refine pf_X9_278 X hP hS e_1 dX9_give_94 (fun H locs hP hS => ?_)
  refine lv_goto (tgt := 170) hx hb dX9_give_97 (by decide) ?_
  exact r_vret X hP hS (pr0 h) dX9_give_170
def f_X9_give_100 (M : Mem) (v1 : Int32) (v2 : Int32) (v3 : Int64) (v5 : Int64) : Option (Mem) :=
  if v1 = v2 then (Option.bind (f_X9_kindNow M v1) fun r_7 => Option.bind (f_X9_growerNow M v1) fun r_8 => Option.bind (f_X9_write M v1 2 v3 r_7 r_8) fun r_9 => some r_9) else (Option.bind (f_X9_kindNow M v1) fun r_1 => Option.bind (f_X9_growerNow M v1) fun r_2 => Option.bind (f_X9_write M v1 2 (v3 - (gL M 119 47)) r_1 r_2) fun r_3 => Option.bind (f_X9_kindNow r_3 v2) fun r_4 => Option.bind (f_X9_growerNow r_3 v2) fun r_5 => Option.bind (f_X9_write r_3 v2 2 (v5 + (gL r_3 119 47)) r_4 r_5) fun r_6 => some r_6)
set_option maxRecDepth 100000 in
set_option maxHeartbeats 4000000 in
theorem w_X9_give_100 (X : Cx p s m args meth c cX9_give RX9 7 none G cy) {out : Mem} {M : Mem} {v1 : Int32} {v2 : Int32} {v3 : Int64} {v5 : Int64} (hP : Pic G B cy nT M H) (hS : va_S (FB B) s.heap H locs) (hl : lv_has ls 7 [(0, .ref (B + 119)), (1, .int v1), (2, .int v2), (3, .long v3), (5, .long v5)]) (h : f_X9_give_100 M v1 v2 v3 v5 = some out) : W p l e rmX9_give s m args below meth c H locs 0 0 (MQ below (Qv G B cy nT out) args s 0 0 (FB B)) (F0 m 100 ls []) := by
  obtain ⟨hx, hb, hr, hml, hown, hts, hKn, hlk⟩ := id X
  unfold f_X9_give_100 at h
  refine lv_iload_n hx hb dX9_give_100 rfl (lv_at hl 1 rfl) ?_
  refine lv_iload_n hx hb dX9_give_101 rfl (lv_at hl 2 rfl) ?_
  refine lv_icmp_ne (tgt := 125) hx hb dX9_give_102 (by decide) (fun hc => ?_) (fun hc => ?_)
  · replace h := if_eln h hc
    refine lv_aload_n hx hb dX9_give_125 rfl (lv_at hl 0 rfl) ?_
    refine lv_iload_n hx hb dX9_give_126 rfl (lv_at hl 1 rfl) ?_
    refine lv_iconst (v := 2) hx hb dX9_give_127 (by decide) ?_
    refine lv_lload_n hx hb dX9_give_128 rfl (lv_at hl 3 rfl) ?_
    refine lv_aload_n hx hb dX9_give_129 rfl (lv_at hl 0 rfl) ?_
    refine gf_X9_287 X hP dX9_give_130 ?_
    refine lv_lsub hx hb dX9_give_133 ?_
    refine lv_aload_n hx hb dX9_give_134 rfl (lv_at hl 0 rfl) ?_
    refine lv_iload_n hx hb dX9_give_135 rfl (lv_at hl 1 rfl) ?_
    obtain ⟨r_1, h_1, h⟩ := bd_el h
    refine cl_i (rn_V (C := RX9) (ci := 9) X hP (c_X9_kindNow h_1) kq_119 rfl k_778 k_779 k_922 k_9 k_780 rfl hd_X9_kindNow (n := 1) ⟨⟨rfl, rfl⟩, Nat.le_of_ble_eq_true rfl, Nat.le_of_ble_eq_true rfl⟩ (As := [.int v1]) (rest := [.long (v3 - (gL M 119 47)), .int 2, .int v1, .ref (B + 119)]) rfl hl.1 rfl (Nat.le_of_ble_eq_true rfl) dX9_give_136 ⟨Nat.zero_le _, Nat.zero_le _⟩) hS (fun H locs hP hS => ?_)
    refine lv_aload_n hx hb dX9_give_139 rfl (lv_at hl 0 rfl) ?_
    refine lv_iload_n hx hb dX9_give_140 rfl (lv_at hl 1 rfl) ?_
    obtain ⟨r_2, h_2, h⟩ := bd_el h
    refine cl_i (rn_V (C := RX9) (ci := 9) X hP (c_X9_growerNow h_2) kq_119 rfl k_781 k_782 k_923 k_9 k_783 rfl hd_X9_growerNow (n := 1) ⟨⟨rfl, rfl⟩, Nat.le_of_ble_eq_true rfl, Nat.le_of_ble_eq_true rfl⟩ (As := [.int v1]) (rest := [.int r_1, .long (v3 - (gL M 119 47)), .int 2, .int v1, .ref (B + 119)]) rfl hl.1 rfl (Nat.le_of_ble_eq_true rfl) dX9_give_141 ⟨Nat.zero_le _, Nat.zero_le _⟩) hS (fun H locs hP hS => ?_)
    obtain ⟨r_3, h_3, h⟩ := bd_el h
    refine cl_v (rn_V (C := RX9) (ci := 9) X hP (c_X9_write h_3) kq_119 rfl k_757 k_758 k_918 k_9 k_759 rfl hd_X9_write (n := 5) ⟨⟨rfl, rfl⟩, Nat.le_of_ble_eq_true rfl, Nat.le_of_ble_eq_true rfl⟩ (As := [.int v1, .int 2, .long (v3 - (gL M 119 47)), .int r_1, .int r_2]) (rest := []) rfl hl.1 rfl (Nat.le_of_ble_eq_true rfl) dX9_give_144 ⟨Nat.zero_le _, Nat.zero_le _⟩) hS (fun H locs hP hS => ?_)
    refine lv_aload_n hx hb dX9_give_147 rfl (lv_at hl 0 rfl) ?_
    refine lv_iload_n hx hb dX9_give_148 rfl (lv_at hl 2 rfl) ?_
    refine lv_iconst (v := 2) hx hb dX9_give_149 (by decide) ?_
    refine lv_lload hx hb dX9_give_150 (lv_at hl 4 rfl) ?_
    refine lv_aload_n hx hb dX9_give_152 rfl (lv_at hl 0 rfl) ?_
    refine gf_X9_287 X hP dX9_give_153 ?_
    refine lv_ladd hx hb dX9_give_156 ?_
    refine lv_aload_n hx hb dX9_give_157 rfl (lv_at hl 0 rfl) ?_
    refine lv_iload_n hx hb dX9_give_158 rfl (lv_at hl 2 rfl) ?_
    obtain ⟨r_4, h_4, h⟩ := bd_el h
    refine cl_i (rn_V (C := RX9) (ci := 9) X hP (c_X9_kindNow h_4) kq_119 rfl k_778 k_779 k_922 k_9 k_780 rfl hd_X9_kindNow (n := 1) ⟨⟨rfl, rfl⟩, Nat.le_of_ble_eq_true rfl, Nat.le_of_ble_eq_true rfl⟩ (As := [.int v2]) (rest := [.long (v5 + (gL r_3 119 47)), .int 2, .int v2, .ref (B + 119)]) rfl hl.1 rfl (Nat.le_of_ble_eq_true rfl) dX9_give_159 ⟨Nat.zero_le _, Nat.zero_le _⟩) hS (fun H locs hP hS => ?_)
    refine lv_aload_n hx hb dX9_give_162 rfl (lv_at hl 0 rfl) ?_
    refine lv_iload_n hx hb dX9_give_163 rfl (lv_at hl 2 rfl) ?_
    obtain ⟨r_5, h_5, h⟩ := bd_el h
    refine cl_i (rn_V (C := RX9) (ci := 9) X hP (c_X9_growerNow h_5) kq_119 rfl k_781 k_782 k_923 k_9 k_783 rfl hd_X9_growerNow (n := 1) ⟨⟨rfl, rfl⟩, Nat.le_of_ble_eq_true rfl, Nat.le_of_ble_eq_true rfl⟩ (As := [.int v2]) (rest := [.int r_4, .long (v5 + (gL r_3 119 47)), .int 2, .int v2, .ref (B + 119)]) rfl hl.1 rfl (Nat.le_of_ble_eq_true rfl) dX9_give_164 ⟨Nat.zero_le _, Nat.zero_le _⟩) hS (fun H locs hP hS => ?_)
    obtain ⟨r_6, h_6, h⟩ := bd_el h
    refine cl_v (rn_V (C := RX9) (ci := 9) X hP (c_X9_write h_6) kq_119 rfl k_757 k_758 k_918 k_9 k_759 rfl hd_X9_write (n := 5) ⟨⟨rfl, rfl⟩, Nat.le_of_ble_eq_true rfl, Nat.le_of_ble_eq_true rfl⟩ (As := [.int v2, .int 2, .long (v5 + (gL r_3 119 47)), .int r_4, .int r_5]) (rest := []) rfl hl.1 rfl (Nat.le_of_ble_eq_true rfl) dX9_give_167 ⟨Nat.zero_le _, Nat.zero_le _⟩) hS (fun H locs hP hS => ?_)
    exact r_vret X hP hS (pr0 h) dX9_give_170
  · replace h := if_elp h hc
    refine lv_aload_n hx hb dX9_give_105 rfl (lv_at hl 0 rfl) ?_
    refine lv_iload_n hx hb dX9_give_106 rfl (lv_at hl 1 rfl) ?_
    refine lv_iconst (v := 2) hx hb dX9_give_107 (by decide) ?_
    refine lv_lload_n hx hb dX9_give_108 rfl (lv_at hl 3 rfl) ?_
    refine lv_aload_n hx hb dX9_give_109 rfl (lv_at hl 0 rfl) ?_
    refine lv_iload_n hx hb dX9_give_110 rfl (lv_at hl 1 rfl) ?_
    obtain ⟨r_7, h_7, h⟩ := bd_el h
    refine cl_i (rn_V (C := RX9) (ci := 9) X hP (c_X9_kindNow h_7) kq_119 rfl k_778 k_779 k_922 k_9 k_780 rfl hd_X9_kindNow (n := 1) ⟨⟨rfl, rfl⟩, Nat.le_of_ble_eq_true rfl, Nat.le_of_ble_eq_true rfl⟩ (As := [.int v1]) (rest := [.long v3, .int 2, .int v1, .ref (B + 119)]) rfl hl.1 rfl (Nat.le_of_ble_eq_true rfl) dX9_give_111 ⟨Nat.zero_le _, Nat.zero_le _⟩) hS (fun H locs hP hS => ?_)
    refine lv_aload_n hx hb dX9_give_114 rfl (lv_at hl 0 rfl) ?_
    refine lv_iload_n hx hb dX9_give_115 rfl (lv_at hl 1 rfl) ?_
    obtain ⟨r_8, h_8, h⟩ := bd_el h
    refine cl_i (rn_V (C := RX9) (ci := 9) X hP (c_X9_growerNow h_8) kq_119 rfl k_781 k_782 k_923 k_9 k_783 rfl hd_X9_growerNow (n := 1) ⟨⟨rfl, rfl⟩, Nat.le_of_ble_eq_true rfl, Nat.le_of_ble_eq_true rfl⟩ (As := [.int v1]) (rest := [.int r_7, .long v3, .int 2, .int v1, .ref (B + 119)]) rfl hl.1 rfl (Nat.le_of_ble_eq_true rfl) dX9_give_116 ⟨Nat.zero_le _, Nat.zero_le _⟩) hS (fun H locs hP hS => ?_)
    obtain ⟨r_9, h_9, h⟩ := bd_el h
    refine cl_v (rn_V (C := RX9) (ci := 9) X hP (c_X9_write h_9) kq_119 rfl k_757 k_758 k_918 k_9 k_759 rfl hd_X9_write (n := 5) ⟨⟨rfl, rfl⟩, Nat.le_of_ble_eq_true rfl, Nat.le_of_ble_eq_true rfl⟩ (As := [.int v1, .int 2, .long v3, .int r_7, .int r_8]) (rest := []) rfl hl.1 rfl (Nat.le_of_ble_eq_true rfl) dX9_give_119 ⟨Nat.zero_le _, Nat.zero_le _⟩) hS (fun H locs hP hS => ?_)
    refine lv_goto (tgt := 170) hx hb dX9_give_122 (by decide) ?_
    exact r_vret X hP hS (pr0 h) dX9_give_170
def f_X9_give (M : Mem) (a1 : Int32) (a2 : Int32) : Option (Mem) :=
  Option.bind (f_X9_is M a1 2) fun r_1 => if (bI r_1.1) = 0 then (some r_1.2) else (Option.bind (f_X9_is r_1.2 a2 2) fun r_2 => if (bI r_2.1) = 0 then (some r_2.2) else (Option.bind (f_X9_numberNow r_2.2 a1) fun r_3 => Option.bind (f_X9_numberNow r_2.2 a2) fun r_4 => Option.bind (f_X9_kindNow r_2.2 a1) fun r_5 => Option.bind (f_X9_kindNow r_2.2 a2) fun r_6 => if r_5 = r_6 then (if (gL r_2.2 119 47) < 0 then (f_X9_give_91 r_2.2) else (if r_3 < (gL r_2.2 119 47) then (f_X9_give_91 r_2.2) else (if a1 = a2 then (f_X9_give_100 r_2.2 a1 a2 r_3 r_4) else (if (r_4 + (gL r_2.2 119 47)) ≤ 1000000000 then (f_X9_give_100 r_2.2 a1 a2 r_3 r_4) else (f_X9_give_91 r_2.2))))) else (lt (sI r_2.2 119 78 7) fun M_1 => some M_1)))
set_option maxRecDepth 100000 in
set_option maxHeartbeats 4000000 in
theorem c_X9_give {l : Launch} {G : va_G} {cy : Nat → ClassId} {B nT : Nat} {M : Mem} {a1 : Int32} {a2 : Int32} {out : Mem} (h : f_X9_give M a1 a2 = some out) : Met l yX9_give (wsU yX9_give cX9_give 7 none) rmX9_give (va_Pc [.ref (B + 119), .int a1, .int a2] (PU G B cy nT M)) (Qv G B cy nT out) 0 0 (FB B) := by
  refine r_met (by decide +kernel) RX9 rfl (Nat.le_of_ble_eq_true rfl) ?_
  intro p e s m args below meth c ls X hP hl
  have hl : lv_has ls 7 [(0, .ref (B + 119)), (1, .int a1), (2, .int a2)] := hl
  have hS : va_S (FB B) s.heap s.heap [] := va_S.rf
  obtain ⟨hx, hb, hr, hml, hown, hts, hKn, hlk⟩ := id X
  unfold f_X9_give at h
  refine lv_aload_n hx hb dX9_give_0 rfl (lv_at hl 0 rfl) ?_
  refine lv_iload_n hx hb dX9_give_1 rfl (lv_at hl 1 rfl) ?_
  refine lv_iconst (v := 2) hx hb dX9_give_2 (by decide) ?_
  obtain ⟨r_1, h_1, h⟩ := bd_el h
  refine cl_i (rn_V (C := RX9) (ci := 9) X hP (c_X9_is h_1) kq_119 rfl k_745 k_746 k_914 k_9 k_747 rfl hd_X9_is (n := 2) ⟨⟨rfl, rfl⟩, Nat.le_of_ble_eq_true rfl, Nat.le_of_ble_eq_true rfl⟩ (As := [.int a1, .int 2]) (rest := []) rfl hl.1 rfl (Nat.le_of_ble_eq_true rfl) dX9_give_3 ⟨Nat.zero_le _, Nat.zero_le _⟩) hS (fun H locs hP hS => ?_)
  refine lv_if_eq (tgt := 18) hx hb dX9_give_6 (by decide) (fun hc => ?_) (fun hc => ?_)
  · replace h := if_elp h hc
    exact r_vret X hP hS (pr0 h) dX9_give_18
  · replace h := if_eln h hc
    refine lv_aload_n hx hb dX9_give_9 rfl (lv_at hl 0 rfl) ?_
    refine lv_iload_n hx hb dX9_give_10 rfl (lv_at hl 2 rfl) ?_
    refine lv_iconst (v := 2) hx hb dX9_give_11 (by decide) ?_
    obtain ⟨r_2, h_2, h⟩ := bd_el h
    refine cl_i (rn_V (C := RX9) (ci := 9) X hP (c_X9_is h_2) kq_119 rfl k_745 k_746 k_914 k_9 k_747 rfl hd_X9_is (n := 2) ⟨⟨rfl, rfl⟩, Nat.le_of_ble_eq_true rfl, Nat.le_of_ble_eq_true rfl⟩ (As := [.int a2, .int 2]) (rest := []) rfl hl.1 rfl (Nat.le_of_ble_eq_true rfl) dX9_give_12 ⟨Nat.zero_le _, Nat.zero_le _⟩) hS (fun H locs hP hS => ?_)
    refine lv_if_ne (tgt := 19) hx hb dX9_give_15 (by decide) (fun hc => ?_) (fun hc => ?_)
    · replace h := if_eln h hc
      refine lv_aload_n hx hb dX9_give_19 rfl (lv_at hl 0 rfl) ?_
      refine lv_iload_n hx hb dX9_give_20 rfl (lv_at hl 1 rfl) ?_
      obtain ⟨r_3, h_3, h⟩ := bd_el h
      refine cl_l (rn_V (C := RX9) (ci := 9) X hP (c_X9_numberNow h_3) kq_119 rfl k_754 k_755 k_917 k_9 k_756 rfl hd_X9_numberNow (n := 1) ⟨⟨rfl, rfl⟩, Nat.le_of_ble_eq_true rfl, Nat.le_of_ble_eq_true rfl⟩ (As := [.int a1]) (rest := []) rfl hl.1 rfl (Nat.le_of_ble_eq_true rfl) dX9_give_21 ⟨Nat.zero_le _, Nat.zero_le _⟩) hS (fun H locs hP hS => ?_)
      refine lv_lstore_n (lv' := [(3, .long r_3), (0, .ref (B + 119)), (1, .int a1), (2, .int a2)]) hx hb dX9_give_24 rfl hl (by decide) rfl (fun ls hl => ?_)
      refine lv_aload_n hx hb dX9_give_25 rfl (lv_at hl 1 rfl) ?_
      refine lv_iload_n hx hb dX9_give_26 rfl (lv_at hl 3 rfl) ?_
      obtain ⟨r_4, h_4, h⟩ := bd_el h
      refine cl_l (rn_V (C := RX9) (ci := 9) X hP (c_X9_numberNow h_4) kq_119 rfl k_754 k_755 k_917 k_9 k_756 rfl hd_X9_numberNow (n := 1) ⟨⟨rfl, rfl⟩, Nat.le_of_ble_eq_true rfl, Nat.le_of_ble_eq_true rfl⟩ (As := [.int a2]) (rest := []) rfl hl.1 rfl (Nat.le_of_ble_eq_true rfl) dX9_give_27 ⟨Nat.zero_le _, Nat.zero_le _⟩) hS (fun H locs hP hS => ?_)
      refine lv_lstore (lv' := [(5, .long r_4), (3, .long r_3), (0, .ref (B + 119)), (1, .int a1), (2, .int a2)]) hx hb dX9_give_30 hl (by decide) rfl (fun ls hl => ?_)
      refine lv_aload_n hx hb dX9_give_32 rfl (lv_at hl 2 rfl) ?_
      refine lv_iload_n hx hb dX9_give_33 rfl (lv_at hl 3 rfl) ?_
      obtain ⟨r_5, h_5, h⟩ := bd_el h
      refine cl_i (rn_V (C := RX9) (ci := 9) X hP (c_X9_kindNow h_5) kq_119 rfl k_778 k_779 k_922 k_9 k_780 rfl hd_X9_kindNow (n := 1) ⟨⟨rfl, rfl⟩, Nat.le_of_ble_eq_true rfl, Nat.le_of_ble_eq_true rfl⟩ (As := [.int a1]) (rest := []) rfl hl.1 rfl (Nat.le_of_ble_eq_true rfl) dX9_give_34 ⟨Nat.zero_le _, Nat.zero_le _⟩) hS (fun H locs hP hS => ?_)
      refine lv_aload_n hx hb dX9_give_37 rfl (lv_at hl 2 rfl) ?_
      refine lv_iload_n hx hb dX9_give_38 rfl (lv_at hl 4 rfl) ?_
      obtain ⟨r_6, h_6, h⟩ := bd_el h
      refine cl_i (rn_V (C := RX9) (ci := 9) X hP (c_X9_kindNow h_6) kq_119 rfl k_778 k_779 k_922 k_9 k_780 rfl hd_X9_kindNow (n := 1) ⟨⟨rfl, rfl⟩, Nat.le_of_ble_eq_true rfl, Nat.le_of_ble_eq_true rfl⟩ (As := [.int a2]) (rest := [.int r_5]) rfl hl.1 rfl (Nat.le_of_ble_eq_true rfl) dX9_give_39 ⟨Nat.zero_le _, Nat.zero_le _⟩) hS (fun H locs hP hS => ?_)
      refine lv_icmp_eq (tgt := 54) hx hb dX9_give_42 (by decide) (fun hc => ?_) (fun hc => ?_)
      · replace h := if_elp h hc
        refine lv_aload_n hx hb dX9_give_54 rfl (lv_at hl 2 rfl) ?_
        refine gf_X9_287 X hP dX9_give_55 ?_
        refine lv_lconst (v := 0) hx hb dX9_give_58 rfl ?_
        refine W.lcmp hx hb dX9_give_59 ?_
        refine lv_if_lt (tgt := 91) hx hb dX9_give_60 (by decide) (fun hc => ?_) (fun hc => ?_)
        · replace h := if_elp h (lc_lt.mp hc)
          exact w_X9_give_91 X hP hS (lv_sub hl [2] rfl) h
        · replace h := if_eln h (fun z => hc (lc_lt.mpr z))
          refine lv_aload_n hx hb dX9_give_63 rfl (lv_at hl 2 rfl) ?_
          refine gf_X9_287 X hP dX9_give_64 ?_
          refine lv_lload_n hx hb dX9_give_67 rfl (lv_at hl 1 rfl) ?_
          refine W.lcmp hx hb dX9_give_68 ?_
          refine lv_if_gt (tgt := 91) hx hb dX9_give_69 (by decide) (fun hc => ?_) (fun hc => ?_)
          · replace h := if_elp h (lc_gt.mp hc)
            exact w_X9_give_91 X hP hS (lv_sub hl [2] rfl) h
          · replace h := if_eln h (fun z => hc (lc_gt.mpr z))
            refine lv_iload_n hx hb dX9_give_72 rfl (lv_at hl 3 rfl) ?_
            refine lv_iload_n hx hb dX9_give_73 rfl (lv_at hl 4 rfl) ?_
            refine lv_icmp_eq (tgt := 100) hx hb dX9_give_74 (by decide) (fun hc => ?_) (fun hc => ?_)
            · replace h := if_elp h hc
              exact w_X9_give_100 X hP hS (lv_sub hl [2, 3, 4, 1, 0] rfl) h
            · replace h := if_eln h hc
              refine lv_lload hx hb dX9_give_77 (lv_at hl 0 rfl) ?_
              refine lv_aload_n hx hb dX9_give_79 rfl (lv_at hl 2 rfl) ?_
              refine gf_X9_287 X hP dX9_give_80 ?_
              refine lv_ladd hx hb dX9_give_83 ?_
              refine lv_ldc2 (v := 1000000000) hx hb hown (hts _ k_657) dX9_give_84 ?_
              refine W.lcmp hx hb dX9_give_87 ?_
              refine lv_if_le (tgt := 100) hx hb dX9_give_88 (by decide) (fun hc => ?_) (fun hc => ?_)
              · replace h := if_elp h (lc_le.mp hc)
                exact w_X9_give_100 X hP hS (lv_sub hl [2, 3, 4, 1, 0] rfl) h
              · replace h := if_eln h (fun z => hc (lc_le.mpr z))
                exact w_X9_give_91 X hP hS (lv_sub hl [2] rfl) h
      · replace h := if_eln h hc
        refine lv_aload_n hx hb dX9_give_45 rfl (lv_at hl 2 rfl) ?_
        refine lv_bipush (v := 7) hx hb dX9_give_46 (by decide) ?_
        obtain ⟨M_1, e_1, h⟩ := lt_el h
        refine pf_X9_278 X hP hS e_1 dX9_give_48 (fun H locs hP hS => ?_)
        refine lv_goto (tgt := 170) hx hb dX9_give_51 (by decide) ?_
        exact r_vret X hP hS (pr0 h) dX9_give_170
    · replace h := if_elp h hc
      exact r_vret X hP hS (pr0 h) dX9_give_18
abbrev rmX9_swap : Room := { frames := 1, cells := 0, slots := 0, locals := 27 }
def f_X9_swap (M : Mem) (a1 : Int32) (a2 : Int32) : Option (Mem) :=
  Option.bind (f_X9_look M a1) fun r_1 => Option.bind (f_X9_look r_1 a2) fun r_2 => Option.bind (f_X9_holdsNow r_2 a1) fun r_3 => Option.bind (f_X9_numberNow r_2 a1) fun r_4 => Option.bind (f_X9_kindNow r_2 a1) fun r_5 => Option.bind (f_X9_growerNow r_2 a1) fun r_6 => Option.bind (f_X9_holdsNow r_2 a2) fun r_7 => Option.bind (f_X9_numberNow r_2 a2) fun r_8 => Option.bind (f_X9_kindNow r_2 a2) fun r_9 => Option.bind (f_X9_growerNow r_2 a2) fun r_10 => Option.bind (f_X9_write r_2 a1 r_7 r_8 r_9 r_10) fun r_11 => Option.bind (f_X9_write r_11 a2 r_3 r_4 r_5 r_6) fun r_12 => some r_12
set_option maxRecDepth 100000 in
set_option maxHeartbeats 4000000 in
theorem c_X9_swap {l : Launch} {G : va_G} {cy : Nat → ClassId} {B nT : Nat} {M : Mem} {a1 : Int32} {a2 : Int32} {out : Mem} (h : f_X9_swap M a1 a2 = some out) : Met l yX9_swap (wsU yX9_swap cX9_swap 8 none) rmX9_swap (va_Pc [.ref (B + 119), .int a1, .int a2] (PU G B cy nT M)) (Qv G B cy nT out) 0 0 (FB B) := by
  refine r_met (by decide +kernel) RX9 rfl (Nat.le_of_ble_eq_true rfl) ?_
  intro p e s m args below meth c ls X hP hl
  have hl : lv_has ls 8 [(0, .ref (B + 119)), (1, .int a1), (2, .int a2)] := hl
  have hS : va_S (FB B) s.heap s.heap [] := va_S.rf
  obtain ⟨hx, hb, hr, hml, hown, hts, hKn, hlk⟩ := id X
  unfold f_X9_swap at h
  refine lv_aload_n hx hb dX9_swap_0 rfl (lv_at hl 0 rfl) ?_
  refine lv_iload_n hx hb dX9_swap_1 rfl (lv_at hl 1 rfl) ?_
  obtain ⟨r_1, h_1, h⟩ := bd_el h
  refine cl_v (rn_V (C := RX9) (ci := 9) X hP (c_X9_look h_1) kq_119 rfl k_748 k_749 k_915 k_9 k_750 rfl hd_X9_look (n := 1) ⟨⟨rfl, rfl⟩, Nat.le_of_ble_eq_true rfl, Nat.le_of_ble_eq_true rfl⟩ (As := [.int a1]) (rest := []) rfl hl.1 rfl (Nat.le_of_ble_eq_true rfl) dX9_swap_2 ⟨Nat.zero_le _, Nat.zero_le _⟩) hS (fun H locs hP hS => ?_)
  refine lv_aload_n hx hb dX9_swap_5 rfl (lv_at hl 0 rfl) ?_
  refine lv_iload_n hx hb dX9_swap_6 rfl (lv_at hl 2 rfl) ?_
  obtain ⟨r_2, h_2, h⟩ := bd_el h
  refine cl_v (rn_V (C := RX9) (ci := 9) X hP (c_X9_look h_2) kq_119 rfl k_748 k_749 k_915 k_9 k_750 rfl hd_X9_look (n := 1) ⟨⟨rfl, rfl⟩, Nat.le_of_ble_eq_true rfl, Nat.le_of_ble_eq_true rfl⟩ (As := [.int a2]) (rest := []) rfl hl.1 rfl (Nat.le_of_ble_eq_true rfl) dX9_swap_7 ⟨Nat.zero_le _, Nat.zero_le _⟩) hS (fun H locs hP hS => ?_)
  refine lv_aload_n hx hb dX9_swap_10 rfl (lv_at hl 0 rfl) ?_
  refine lv_iload_n hx hb dX9_swap_11 rfl (lv_at hl 1 rfl) ?_
  obtain ⟨r_3, h_3, h⟩ := bd_el h
  refine cl_i (rn_V (C := RX9) (ci := 9) X hP (c_X9_holdsNow h_3) kq_119 rfl k_751 k_752 k_916 k_9 k_753 rfl hd_X9_holdsNow (n := 1) ⟨⟨rfl, rfl⟩, Nat.le_of_ble_eq_true rfl, Nat.le_of_ble_eq_true rfl⟩ (As := [.int a1]) (rest := []) rfl hl.1 rfl (Nat.le_of_ble_eq_true rfl) dX9_swap_12 ⟨Nat.zero_le _, Nat.zero_le _⟩) hS (fun H locs hP hS => ?_)
  refine lv_istore_n (lv' := [(3, .int r_3), (0, .ref (B + 119)), (1, .int a1), (2, .int a2)]) hx hb dX9_swap_15 rfl hl (by decide) rfl (fun ls hl => ?_)
  refine lv_aload_n hx hb dX9_swap_16 rfl (lv_at hl 1 rfl) ?_
  refine lv_iload_n hx hb dX9_swap_17 rfl (lv_at hl 2 rfl) ?_
  obtain ⟨r_4, h_4, h⟩ := bd_el h
  refine cl_l (rn_V (C := RX9) (ci := 9) X hP (c_X9_numberNow h_4) kq_119 rfl k_754 k_755 k_917 k_9 k_756 rfl hd_X9_numberNow (n := 1) ⟨⟨rfl, rfl⟩, Nat.le_of_ble_eq_true rfl, Nat.le_of_ble_eq_true rfl⟩ (As := [.int a1]) (rest := []) rfl hl.1 rfl (Nat.le_of_ble_eq_true rfl) dX9_swap_18 ⟨Nat.zero_le _, Nat.zero_le _⟩) hS (fun H locs hP hS => ?_)
  refine lv_lstore (lv' := [(4, .long r_4), (3, .int r_3), (0, .ref (B + 119)), (1, .int a1), (2, .int a2)]) hx hb dX9_swap_21 hl (by decide) rfl (fun ls hl => ?_)
  refine lv_aload_n hx hb dX9_swap_23 rfl (lv_at hl 2 rfl) ?_
  refine lv_iload_n hx hb dX9_swap_24 rfl (lv_at hl 3 rfl) ?_
  obtain ⟨r_5, h_5, h⟩ := bd_el h
  refine cl_i (rn_V (C := RX9) (ci := 9) X hP (c_X9_kindNow h_5) kq_119 rfl k_778 k_779 k_922 k_9 k_780 rfl hd_X9_kindNow (n := 1) ⟨⟨rfl, rfl⟩, Nat.le_of_ble_eq_true rfl, Nat.le_of_ble_eq_true rfl⟩ (As := [.int a1]) (rest := []) rfl hl.1 rfl (Nat.le_of_ble_eq_true rfl) dX9_swap_25 ⟨Nat.zero_le _, Nat.zero_le _⟩) hS (fun H locs hP hS => ?_)
  refine lv_istore (lv' := [(6, .int r_5), (4, .long r_4), (3, .int r_3), (0, .ref (B + 119)), (1, .int a1), (2, .int a2)]) hx hb dX9_swap_28 hl (by decide) rfl (fun ls hl => ?_)
  refine lv_aload_n hx hb dX9_swap_30 rfl (lv_at hl 3 rfl) ?_
  refine lv_iload_n hx hb dX9_swap_31 rfl (lv_at hl 4 rfl) ?_
  obtain ⟨r_6, h_6, h⟩ := bd_el h
  refine cl_i (rn_V (C := RX9) (ci := 9) X hP (c_X9_growerNow h_6) kq_119 rfl k_781 k_782 k_923 k_9 k_783 rfl hd_X9_growerNow (n := 1) ⟨⟨rfl, rfl⟩, Nat.le_of_ble_eq_true rfl, Nat.le_of_ble_eq_true rfl⟩ (As := [.int a1]) (rest := []) rfl hl.1 rfl (Nat.le_of_ble_eq_true rfl) dX9_swap_32 ⟨Nat.zero_le _, Nat.zero_le _⟩) hS (fun H locs hP hS => ?_)
  refine lv_istore (lv' := [(7, .int r_6), (6, .int r_5), (4, .long r_4), (3, .int r_3), (0, .ref (B + 119)), (1, .int a1), (2, .int a2)]) hx hb dX9_swap_35 hl (by decide) rfl (fun ls hl => ?_)
  refine lv_aload_n hx hb dX9_swap_37 rfl (lv_at hl 4 rfl) ?_
  refine lv_iload_n hx hb dX9_swap_38 rfl (lv_at hl 5 rfl) ?_
  refine lv_aload_n hx hb dX9_swap_39 rfl (lv_at hl 4 rfl) ?_
  refine lv_iload_n hx hb dX9_swap_40 rfl (lv_at hl 6 rfl) ?_
  obtain ⟨r_7, h_7, h⟩ := bd_el h
  refine cl_i (rn_V (C := RX9) (ci := 9) X hP (c_X9_holdsNow h_7) kq_119 rfl k_751 k_752 k_916 k_9 k_753 rfl hd_X9_holdsNow (n := 1) ⟨⟨rfl, rfl⟩, Nat.le_of_ble_eq_true rfl, Nat.le_of_ble_eq_true rfl⟩ (As := [.int a2]) (rest := [.int a1, .ref (B + 119)]) rfl hl.1 rfl (Nat.le_of_ble_eq_true rfl) dX9_swap_41 ⟨Nat.zero_le _, Nat.zero_le _⟩) hS (fun H locs hP hS => ?_)
  refine lv_aload_n hx hb dX9_swap_44 rfl (lv_at hl 4 rfl) ?_
  refine lv_iload_n hx hb dX9_swap_45 rfl (lv_at hl 6 rfl) ?_
  obtain ⟨r_8, h_8, h⟩ := bd_el h
  refine cl_l (rn_V (C := RX9) (ci := 9) X hP (c_X9_numberNow h_8) kq_119 rfl k_754 k_755 k_917 k_9 k_756 rfl hd_X9_numberNow (n := 1) ⟨⟨rfl, rfl⟩, Nat.le_of_ble_eq_true rfl, Nat.le_of_ble_eq_true rfl⟩ (As := [.int a2]) (rest := [.int r_7, .int a1, .ref (B + 119)]) rfl hl.1 rfl (Nat.le_of_ble_eq_true rfl) dX9_swap_46 ⟨Nat.zero_le _, Nat.zero_le _⟩) hS (fun H locs hP hS => ?_)
  refine lv_aload_n hx hb dX9_swap_49 rfl (lv_at hl 4 rfl) ?_
  refine lv_iload_n hx hb dX9_swap_50 rfl (lv_at hl 6 rfl) ?_
  obtain ⟨r_9, h_9, h⟩ := bd_el h
  refine cl_i (rn_V (C := RX9) (ci := 9) X hP (c_X9_kindNow h_9) kq_119 rfl k_778 k_779 k_922 k_9 k_780 rfl hd_X9_kindNow (n := 1) ⟨⟨rfl, rfl⟩, Nat.le_of_ble_eq_true rfl, Nat.le_of_ble_eq_true rfl⟩ (As := [.int a2]) (rest := [.long r_8, .int r_7, .int a1, .ref (B + 119)]) rfl hl.1 rfl (Nat.le_of_ble_eq_true rfl) dX9_swap_51 ⟨Nat.zero_le _, Nat.zero_le _⟩) hS (fun H locs hP hS => ?_)
  refine lv_aload_n hx hb dX9_swap_54 rfl (lv_at hl 4 rfl) ?_
  refine lv_iload_n hx hb dX9_swap_55 rfl (lv_at hl 6 rfl) ?_
  obtain ⟨r_10, h_10, h⟩ := bd_el h
  refine cl_i (rn_V (C := RX9) (ci := 9) X hP (c_X9_growerNow h_10) kq_119 rfl k_781 k_782 k_923 k_9 k_783 rfl hd_X9_growerNow (n := 1) ⟨⟨rfl, rfl⟩, Nat.le_of_ble_eq_true rfl, Nat.le_of_ble_eq_true rfl⟩ (As := [.int a2]) (rest := [.int r_9, .long r_8, .int r_7, .int a1, .ref (B + 119)]) rfl hl.1 rfl (Nat.le_of_ble_eq_true rfl) dX9_swap_56 ⟨Nat.zero_le _, Nat.zero_le _⟩) hS (fun H locs hP hS => ?_)
  obtain ⟨r_11, h_11, h⟩ := bd_el h
  refine cl_v (rn_V (C := RX9) (ci := 9) X hP (c_X9_write h_11) kq_119 rfl k_757 k_758 k_918 k_9 k_759 rfl hd_X9_write (n := 5) ⟨⟨rfl, rfl⟩, Nat.le_of_ble_eq_true rfl, Nat.le_of_ble_eq_true rfl⟩ (As := [.int a1, .int r_7, .long r_8, .int r_9, .int r_10]) (rest := []) rfl hl.1 rfl (Nat.le_of_ble_eq_true rfl) dX9_swap_59 ⟨Nat.zero_le _, Nat.zero_le _⟩) hS (fun H locs hP hS => ?_)
  refine lv_aload_n hx hb dX9_swap_62 rfl (lv_at hl 4 rfl) ?_
  refine lv_iload_n hx hb dX9_swap_63 rfl (lv_at hl 6 rfl) ?_
  refine lv_iload_n hx hb dX9_swap_64 rfl (lv_at hl 3 rfl) ?_
  refine lv_lload hx hb dX9_swap_65 (lv_at hl 2 rfl) ?_
  refine lv_iload hx hb dX9_swap_67 (lv_at hl 1 rfl) ?_
  refine lv_iload hx hb dX9_swap_69 (lv_at hl 0 rfl) ?_
  obtain ⟨r_12, h_12, h⟩ := bd_el h
  refine cl_v (rn_V (C := RX9) (ci := 9) X hP (c_X9_write h_12) kq_119 rfl k_757 k_758 k_918 k_9 k_759 rfl hd_X9_write (n := 5) ⟨⟨rfl, rfl⟩, Nat.le_of_ble_eq_true rfl, Nat.le_of_ble_eq_true rfl⟩ (As := [.int a2, .int r_3, .long r_4, .int r_5, .int r_6]) (rest := []) rfl hl.1 rfl (Nat.le_of_ble_eq_true rfl) dX9_swap_71 ⟨Nat.zero_le _, Nat.zero_le _⟩) hS (fun H locs hP hS => ?_)
  exact r_vret X hP hS (pr0 h) dX9_swap_74
abbrev rmX9_part : Room := { frames := 2, cells := 0, slots := 0, locals := 45 }
def f_X9_part_57 (M : Mem) (v2 : Int64) : Option (Mem) :=
  gd (v2 != 0) <| lt (sL M 119 47 ((gL M 119 47) / v2)) fun M_1 => some M_1
set_option maxRecDepth 100000 in
set_option maxHeartbeats 4000000 in
theorem w_X9_part_57 (X : Cx p s m args meth c cX9_part RX9 4 none G cy) {out : Mem} {M : Mem} {v2 : Int64} (hP : Pic G B cy nT M H) (hS : va_S (FB B) s.heap H locs) (hl : lv_has ls 4 [(0, .ref (B + 119)), (2, .long v2)]) (h : f_X9_part_57 M v2 = some out) : W p l e rmX9_part s m args below meth c H locs 0 0 (MQ below (Qv G B cy nT out) args s 0 0 (FB B)) (F0 m 57 ls []) := by
  obtain ⟨hx, hb, hr, hml, hown, hts, hKn, hlk⟩ := id X
  unfold f_X9_part_57 at h
  refine lv_aload_n hx hb dX9_part_57 rfl (lv_at hl 0 rfl) ?_
  refine lv_aload_n hx hb dX9_part_58 rfl (lv_at hl 0 rfl) ?_
  refine gf_X9_287 X hP dX9_part_59 ?_
  refine lv_lload_n hx hb dX9_part_62 rfl (lv_at hl 1 rfl) ?_
  obtain ⟨g_1, h⟩ := gd_el h
  refine lv_ldiv hx hb dX9_part_63 (bne_iff_ne.mp g_1) ?_
  obtain ⟨M_1, e_1, h⟩ := lt_el h
  refine pf_X9_287 X hP hS e_1 dX9_part_64 (fun H locs hP hS => ?_)
  exact r_vret X hP hS (pr0 h) dX9_part_67
def f_X9_part (M : Mem) (a1 : Int32) : Option (Mem) :=
  Option.bind (f_X9_is M a1 1) fun r_1 => if (bI r_1.1) = 0 then (some r_1.2) else (Option.bind (f_X9_numberNow r_1.2 a1) fun r_2 => if r_2 = 0 then (lt (sI r_1.2 119 78 4) fun M_2 => some M_2) else (if (gL r_1.2 119 47) = (-9223372036854775808) then (if r_2 = (-1) then (lt (sI r_1.2 119 78 5) fun M_1 => some M_1) else (f_X9_part_57 r_1.2 r_2)) else (f_X9_part_57 r_1.2 r_2)))
set_option maxRecDepth 100000 in
set_option maxHeartbeats 4000000 in
theorem c_X9_part {l : Launch} {G : va_G} {cy : Nat → ClassId} {B nT : Nat} {M : Mem} {a1 : Int32} {out : Mem} (h : f_X9_part M a1 = some out) : Met l yX9_part (wsU yX9_part cX9_part 4 none) rmX9_part (va_Pc [.ref (B + 119), .int a1] (PU G B cy nT M)) (Qv G B cy nT out) 0 0 (FB B) := by
  refine r_met (by decide +kernel) RX9 rfl (Nat.le_of_ble_eq_true rfl) ?_
  intro p e s m args below meth c ls X hP hl
  have hl : lv_has ls 4 [(0, .ref (B + 119)), (1, .int a1)] := hl
  have hS : va_S (FB B) s.heap s.heap [] := va_S.rf
  obtain ⟨hx, hb, hr, hml, hown, hts, hKn, hlk⟩ := id X
  unfold f_X9_part at h
  refine lv_aload_n hx hb dX9_part_0 rfl (lv_at hl 0 rfl) ?_
  refine lv_iload_n hx hb dX9_part_1 rfl (lv_at hl 1 rfl) ?_
  refine lv_iconst (v := 1) hx hb dX9_part_2 (by decide) ?_
  obtain ⟨r_1, h_1, h⟩ := bd_el h
  refine cl_i (rn_V (C := RX9) (ci := 9) X hP (c_X9_is h_1) kq_119 rfl k_745 k_746 k_914 k_9 k_747 rfl hd_X9_is (n := 2) ⟨⟨rfl, rfl⟩, Nat.le_of_ble_eq_true rfl, Nat.le_of_ble_eq_true rfl⟩ (As := [.int a1, .int 1]) (rest := []) rfl hl.1 rfl (Nat.le_of_ble_eq_true rfl) dX9_part_3 ⟨Nat.zero_le _, Nat.zero_le _⟩) hS (fun H locs hP hS => ?_)
  refine lv_if_ne (tgt := 10) hx hb dX9_part_6 (by decide) (fun hc => ?_) (fun hc => ?_)
  · replace h := if_eln h hc
    refine lv_aload_n hx hb dX9_part_10 rfl (lv_at hl 0 rfl) ?_
    refine lv_iload_n hx hb dX9_part_11 rfl (lv_at hl 1 rfl) ?_
    obtain ⟨r_2, h_2, h⟩ := bd_el h
    refine cl_l (rn_V (C := RX9) (ci := 9) X hP (c_X9_numberNow h_2) kq_119 rfl k_754 k_755 k_917 k_9 k_756 rfl hd_X9_numberNow (n := 1) ⟨⟨rfl, rfl⟩, Nat.le_of_ble_eq_true rfl, Nat.le_of_ble_eq_true rfl⟩ (As := [.int a1]) (rest := []) rfl hl.1 rfl (Nat.le_of_ble_eq_true rfl) dX9_part_12 ⟨Nat.zero_le _, Nat.zero_le _⟩) hS (fun H locs hP hS => ?_)
    refine lv_lstore_n (lv' := [(2, .long r_2), (0, .ref (B + 119)), (1, .int a1)]) hx hb dX9_part_15 rfl hl (by decide) rfl (fun ls hl => ?_)
    refine lv_lload_n hx hb dX9_part_16 rfl (lv_at hl 0 rfl) ?_
    refine lv_lconst (v := 0) hx hb dX9_part_17 rfl ?_
    refine W.lcmp hx hb dX9_part_18 ?_
    refine lv_if_ne (tgt := 30) hx hb dX9_part_19 (by decide) (fun hc => ?_) (fun hc => ?_)
    · replace h := if_eln h (fun z => hc (lc_eq.mpr z))
      refine lv_aload_n hx hb dX9_part_30 rfl (lv_at hl 1 rfl) ?_
      refine gf_X9_287 X hP dX9_part_31 ?_
      refine lv_ldc2 (v := (-9223372036854775808)) hx hb hown (hts _ k_767) dX9_part_34 ?_
      refine W.lcmp hx hb dX9_part_37 ?_
      refine lv_if_ne (tgt := 57) hx hb dX9_part_38 (by decide) (fun hc => ?_) (fun hc => ?_)
      · replace h := if_eln h (fun z => hc (lc_eq.mpr z))
        exact w_X9_part_57 X hP hS (lv_sub hl [1, 0] rfl) h
      · replace h := if_elp h (lc_eq.mp hc)
        refine lv_lload_n hx hb dX9_part_41 rfl (lv_at hl 0 rfl) ?_
        refine lv_ldc2 (v := (-1)) hx hb hown (hts _ k_771) dX9_part_42 ?_
        refine W.lcmp hx hb dX9_part_45 ?_
        refine lv_if_ne (tgt := 57) hx hb dX9_part_46 (by decide) (fun hc => ?_) (fun hc => ?_)
        · replace h := if_eln h (fun z => hc (lc_eq.mpr z))
          exact w_X9_part_57 X hP hS (lv_sub hl [1, 0] rfl) h
        · replace h := if_elp h (lc_eq.mp hc)
          refine lv_aload_n hx hb dX9_part_49 rfl (lv_at hl 1 rfl) ?_
          refine lv_iconst (v := 5) hx hb dX9_part_50 (by decide) ?_
          obtain ⟨M_1, e_1, h⟩ := lt_el h
          refine pf_X9_278 X hP hS e_1 dX9_part_51 (fun H locs hP hS => ?_)
          refine lv_goto (tgt := 67) hx hb dX9_part_54 (by decide) ?_
          exact r_vret X hP hS (pr0 h) dX9_part_67
    · replace h := if_elp h (lc_eq.mp hc)
      refine lv_aload_n hx hb dX9_part_22 rfl (lv_at hl 1 rfl) ?_
      refine lv_iconst (v := 4) hx hb dX9_part_23 (by decide) ?_
      obtain ⟨M_2, e_2, h⟩ := lt_el h
      refine pf_X9_278 X hP hS e_2 dX9_part_24 (fun H locs hP hS => ?_)
      refine lv_goto (tgt := 67) hx hb dX9_part_27 (by decide) ?_
      exact r_vret X hP hS (pr0 h) dX9_part_67
  · replace h := if_elp h hc
    exact r_vret X hP hS (pr0 h) dX9_part_9
abbrev rmX9_plus : Room := { frames := 1, cells := 0, slots := 0, locals := 23 }
def f_X9_plus (M : Mem) (a1 : Int64) : Option (Mem) :=
  Option.bind (f_X9_addsUp (gL M 119 47) a1) fun r_1 => if (bI r_1) = 0 then (lt (sI M 119 78 5) fun M_1 => some M_1) else (lt (sL M 119 47 ((gL M 119 47) + a1)) fun M_2 => some M_2)
set_option maxRecDepth 100000 in
set_option maxHeartbeats 4000000 in
theorem c_X9_plus {l : Launch} {G : va_G} {cy : Nat → ClassId} {B nT : Nat} {M : Mem} {a1 : Int64} {out : Mem} (h : f_X9_plus M a1 = some out) : Met l yX9_plus (wsU yX9_plus cX9_plus 3 none) rmX9_plus (va_Pc [.ref (B + 119), .long a1] (PU G B cy nT M)) (Qv G B cy nT out) 0 0 (FB B) := by
  refine r_met (by decide +kernel) RX9 rfl (Nat.le_of_ble_eq_true rfl) ?_
  intro p e s m args below meth c ls X hP hl
  have hl : lv_has ls 3 [(0, .ref (B + 119)), (1, .long a1)] := hl
  have hS : va_S (FB B) s.heap s.heap [] := va_S.rf
  obtain ⟨hx, hb, hr, hml, hown, hts, hKn, hlk⟩ := id X
  unfold f_X9_plus at h
  refine lv_aload_n hx hb dX9_plus_0 rfl (lv_at hl 0 rfl) ?_
  refine gf_X9_287 X hP dX9_plus_1 ?_
  refine lv_lload_n hx hb dX9_plus_4 rfl (lv_at hl 1 rfl) ?_
  obtain ⟨r_1, h_1, h⟩ := bd_el h
  refine cl_i (rn_S X hP (c_X9_addsUp h_1) k_763 k_764 k_9 k_765 hd_X9_addsUp (n := 2) ⟨⟨rfl, rfl⟩, Nat.le_of_ble_eq_true rfl, Nat.le_of_ble_eq_true rfl⟩ (As := [.long (gL M 119 47), .long a1]) (rest := []) rfl hl.1 rfl (Nat.le_of_ble_eq_true rfl) dX9_plus_5 ⟨Nat.zero_le _, Nat.zero_le _⟩) hS (fun H locs hP hS => ?_)
  refine lv_if_eq (tgt := 24) hx hb dX9_plus_8 (by decide) (fun hc => ?_) (fun hc => ?_)
  · replace h := if_elp h hc
    refine lv_aload_n hx hb dX9_plus_24 rfl (lv_at hl 0 rfl) ?_
    refine lv_iconst (v := 5) hx hb dX9_plus_25 (by decide) ?_
    obtain ⟨M_1, e_1, h⟩ := lt_el h
    refine pf_X9_278 X hP hS e_1 dX9_plus_26 (fun H locs hP hS => ?_)
    exact r_vret X hP hS (pr0 h) dX9_plus_29
  · replace h := if_eln h hc
    refine lv_aload_n hx hb dX9_plus_11 rfl (lv_at hl 0 rfl) ?_
    refine lv_aload_n hx hb dX9_plus_12 rfl (lv_at hl 0 rfl) ?_
    refine gf_X9_287 X hP dX9_plus_13 ?_
    refine lv_lload_n hx hb dX9_plus_16 rfl (lv_at hl 1 rfl) ?_
    refine lv_ladd hx hb dX9_plus_17 ?_
    obtain ⟨M_2, e_2, h⟩ := lt_el h
    refine pf_X9_287 X hP hS e_2 dX9_plus_18 (fun H locs hP hS => ?_)
    refine lv_goto (tgt := 29) hx hb dX9_plus_21 (by decide) ?_
    exact r_vret X hP hS (pr0 h) dX9_plus_29
abbrev rmX9_act : Room := { frames := 3, cells := 0, slots := 0, locals := 71 }
def f_X9_act_111 (M : Mem) (s0 : Int64) : Option (Mem) :=
  lt (sL M 119 47 s0) fun M_1 => some M_1
set_option maxRecDepth 100000 in
set_option maxHeartbeats 4000000 in
theorem w_X9_act_111 (X : Cx p s m args meth c cX9_act RX9 5 none G cy) {out : Mem} {M : Mem} {s0 : Int64} (hP : Pic G B cy nT M H) (hS : va_S (FB B) s.heap H locs) (hl : lv_has ls 5 []) (h : f_X9_act_111 M s0 = some out) : W p l e rmX9_act s m args below meth c H locs 0 0 (MQ below (Qv G B cy nT out) args s 0 0 (FB B)) (F0 m 111 ls [.long s0, .ref (B + 119)]) := by
  obtain ⟨hx, hb, hr, hml, hown, hts, hKn, hlk⟩ := id X
  unfold f_X9_act_111 at h
  obtain ⟨M_1, e_1, h⟩ := lt_el h
  refine pf_X9_287 X hP hS e_1 dX9_act_111 (fun H locs hP hS => ?_)
  refine lv_goto (tgt := 512) hx hb dX9_act_114 (by decide) ?_
  exact r_vret X hP hS (pr0 h) dX9_act_512
def f_X9_act_279 (M : Mem) (s0 : Int64) : Option (Mem) :=
  lt (sL M 119 47 s0) fun M_1 => some M_1
set_option maxRecDepth 100000 in
set_option maxHeartbeats 4000000 in
theorem w_X9_act_279 (X : Cx p s m args meth c cX9_act RX9 5 none G cy) {out : Mem} {M : Mem} {s0 : Int64} (hP : Pic G B cy nT M H) (hS : va_S (FB B) s.heap H locs) (hl : lv_has ls 5 []) (h : f_X9_act_279 M s0 = some out) : W p l e rmX9_act s m args below meth c H locs 0 0 (MQ below (Qv G B cy nT out) args s 0 0 (FB B)) (F0 m 279 ls [.long s0, .ref (B + 119)]) := by
  obtain ⟨hx, hb, hr, hml, hown, hts, hKn, hlk⟩ := id X
  unfold f_X9_act_279 at h
  obtain ⟨M_1, e_1, h⟩ := lt_el h
  refine pf_X9_287 X hP hS e_1 dX9_act_279 (fun H locs hP hS => ?_)
  refine lv_goto (tgt := 512) hx hb dX9_act_282 (by decide) ?_
  exact r_vret X hP hS (pr0 h) dX9_act_512
def f_X9_act_307 (M : Mem) (s0 : Int64) : Option (Mem) :=
  lt (sL M 119 47 s0) fun M_1 => some M_1
set_option maxRecDepth 100000 in
set_option maxHeartbeats 4000000 in
theorem w_X9_act_307 (X : Cx p s m args meth c cX9_act RX9 5 none G cy) {out : Mem} {M : Mem} {s0 : Int64} (hP : Pic G B cy nT M H) (hS : va_S (FB B) s.heap H locs) (hl : lv_has ls 5 []) (h : f_X9_act_307 M s0 = some out) : W p l e rmX9_act s m args below meth c H locs 0 0 (MQ below (Qv G B cy nT out) args s 0 0 (FB B)) (F0 m 307 ls [.long s0, .ref (B + 119)]) := by
  obtain ⟨hx, hb, hr, hml, hown, hts, hKn, hlk⟩ := id X
  unfold f_X9_act_307 at h
  obtain ⟨M_1, e_1, h⟩ := lt_el h
  refine pf_X9_287 X hP hS e_1 dX9_act_307 (fun H locs hP hS => ?_)
  refine lv_goto (tgt := 512) hx hb dX9_act_310 (by decide) ?_
  exact r_vret X hP hS (pr0 h) dX9_act_512
def f_X9_act_371 (M : Mem) : Option (Mem) :=
  gd (inR (gI M 119 46) 4) <| gd (inR (gI M 119 46) 4) <| lt (sI M 170 (gI M 119 46).toNatClampNeg ((gI M 170 (gI M 119 46).toNatClampNeg) + 1)) fun M_1 => some M_1
set_option maxRecDepth 100000 in
set_option maxHeartbeats 4000000 in
theorem w_X9_act_371 (X : Cx p s m args meth c cX9_act RX9 5 none G cy) {out : Mem} {M : Mem} (hP : Pic G B cy nT M H) (hS : va_S (FB B) s.heap H locs) (hl : lv_has ls 5 [(0, .ref (B + 119))]) (h : f_X9_act_371 M = some out) : W p l e rmX9_act s m args below meth c H locs 0 0 (MQ below (Qv G B cy nT out) args s 0 0 (FB B)) (F0 m 371 ls []) := by
  obtain ⟨hx, hb, hr, hml, hown, hts, hKn, hlk⟩ := id X
  unfold f_X9_act_371 at h
  refine lv_aload_n hx hb dX9_act_371 rfl (lv_at hl 0 rfl) ?_
  refine gf_X9_166 X hP dX9_act_372 ?_
  refine lv_aload_n hx hb dX9_act_375 rfl (lv_at hl 0 rfl) ?_
  refine gf_X9_267 X hP dX9_act_376 ?_
  refine lv_dup2_11 hx hb dX9_act_379 rfl rfl ?_
  obtain ⟨g_1, h⟩ := gd_el h
  refine r_iald X hP kq_170 g_1 dX9_act_380 ?_
  refine lv_iconst (v := 1) hx hb dX9_act_381 (by decide) ?_
  refine lv_iadd hx hb dX9_act_382 ?_
  obtain ⟨g_2, h⟩ := gd_el h
  obtain ⟨M_1, e_1, h⟩ := lt_el h
  refine r_iast X hP hS kq_170 g_2 e_1 dX9_act_383 (fun H locs hP hS => ?_)
  refine lv_goto (tgt := 512) hx hb dX9_act_384 (by decide) ?_
  exact r_vret X hP hS (pr0 h) dX9_act_512
def f_X9_act_426 (M : Mem) (s0 : Int32) (s1 : Int32) (s2 : Int32) : Option (Mem) :=
  gd (inR s2 24) <| lt (sI M 178 s2.toNatClampNeg (s1 + s0)) fun M_1 => some M_1
set_option maxRecDepth 100000 in
set_option maxHeartbeats 4000000 in
theorem w_X9_act_426 (X : Cx p s m args meth c cX9_act RX9 5 none G cy) {out : Mem} {M : Mem} {s0 : Int32} {s1 : Int32} {s2 : Int32} (hP : Pic G B cy nT M H) (hS : va_S (FB B) s.heap H locs) (hl : lv_has ls 5 []) (h : f_X9_act_426 M s0 s1 s2 = some out) : W p l e rmX9_act s m args below meth c H locs 0 0 (MQ below (Qv G B cy nT out) args s 0 0 (FB B)) (F0 m 426 ls [.int s0, .int s1, .int s2, .ref (B + 178)]) := by
  obtain ⟨hx, hb, hr, hml, hown, hts, hKn, hlk⟩ := id X
  unfold f_X9_act_426 at h
  refine lv_iadd hx hb dX9_act_426 ?_
  obtain ⟨g_1, h⟩ := gd_el h
  obtain ⟨M_1, e_1, h⟩ := lt_el h
  refine r_iast X hP hS kq_178 g_1 e_1 dX9_act_427 (fun H locs hP hS => ?_)
  refine lv_goto (tgt := 512) hx hb dX9_act_428 (by decide) ?_
  exact r_vret X hP hS (pr0 h) dX9_act_512
def f_X9_act (M : Mem) (a1 : Int32) (a2 : Int32) (a3 : Int32) : Option (Mem) :=
  if a1 = 0 then (lt (sL M 119 47 (Int32.toInt64 a2)) fun M_1 => some M_1) else if a1 = 1 then (Option.bind (f_X9_is M a2 1) fun r_1 => if (bI r_1.1) = 0 then (f_X9_act_111 r_1.2 (gL r_1.2 119 47)) else (Option.bind (f_X9_numberNow r_1.2 a2) fun r_2 => f_X9_act_111 r_1.2 r_2)) else if a1 = 2 then (Option.bind (f_X9_write M a2 1 (gL M 119 47) 0 0) fun r_3 => some r_3) else if a1 = 3 then (Option.bind (f_X9_is M a2 1) fun r_4 => if (bI r_4.1) = 0 then (some r_4.2) else (Option.bind (f_X9_numberNow r_4.2 a2) fun r_5 => Option.bind (f_X9_plus r_4.2 r_5) fun r_6 => some r_6)) else if a1 = 4 then (Option.bind (f_X9_plus M (Int32.toInt64 a2)) fun r_7 => some r_7) else if a1 = 5 then (Option.bind (f_X9_timesUp (gL M 119 47) (Int32.toInt64 a2)) fun r_8 => if (bI r_8) = 0 then (lt (sI M 119 78 5) fun M_2 => some M_2) else (lt (sL M 119 47 ((gL M 119 47) * (Int32.toInt64 a2))) fun M_3 => some M_3)) else if a1 = 6 then (Option.bind (f_X9_part M a2) fun r_9 => some r_9) else if a1 = 7 then (Option.bind (f_X9_isCell (gL M 119 47)) fun r_10 => if (bI r_10) = 0 then (lt (sI M 119 78 2) fun M_5 => some M_5) else (Option.bind (f_X9_is M (Int64.toInt32 (gL M 119 47)) 1) fun r_11 => if (bI r_11.1) = 0 then (some r_11.2) else (Option.bind (f_X9_numberNow r_11.2 (Int64.toInt32 (gL r_11.2 119 47))) fun r_12 => lt (sL r_11.2 119 47 r_12) fun M_4 => some M_4))) else if a1 = 8 then (Option.bind (f_X9_is M a2 1) fun r_13 => if (bI r_13.1) = 0 then (some r_13.2) else (Option.bind (f_X9_numberNow r_13.2 a2) fun r_14 => if r_14 ≤ (gL r_13.2 119 47) then (f_X9_act_279 r_13.2 0) else (f_X9_act_279 r_13.2 1))) else if a1 = 9 then (Option.bind (f_X9_is M a2 2) fun r_15 => if (bI r_15.1) = 0 then (f_X9_act_307 r_15.2 (gL r_15.2 119 47)) else (Option.bind (f_X9_numberNow r_15.2 a2) fun r_16 => f_X9_act_307 r_15.2 r_16)) else if a1 = 10 then (Option.bind (f_X9_give M a2 a3) fun r_17 => some r_17) else if a1 = 11 then (Option.bind (f_X9_swap M a2 a3) fun r_18 => some r_18) else if a1 = 12 then (gd (inR (gI M 119 46) 4) <| if 8 ≤ (gI M 170 (gI M 119 46).toNatClampNeg) then (f_X9_act_371 M) else (gd (inR (gI M 119 46) 4) <| gd (inR ((8 * (gI M 119 46)) + (gI M 170 (gI M 119 46).toNatClampNeg)) 32) <| lt (sL M 171 ((8 * (gI M 119 46)) + (gI M 170 (gI M 119 46).toNatClampNeg)).toNatClampNeg (gL M 119 47)) fun M_6 => f_X9_act_371 M_6)) else if a1 = 13 then (gd (inR (gI M 119 46) 4) <| gd (inR (((6 * (gI M 119 46)) + (gI M 176 (gI M 119 46).toNatClampNeg)) - 1) 24) <| if (gL M 119 47) = 0 then (f_X9_act_426 M a2 (gI M 178 (((6 * (gI M 119 46)) + (gI M 176 (gI M 119 46).toNatClampNeg)) - 1).toNatClampNeg) (((6 * (gI M 119 46)) + (gI M 176 (gI M 119 46).toNatClampNeg)) - 1)) else (f_X9_act_426 M 0 (gI M 178 (((6 * (gI M 119 46)) + (gI M 176 (gI M 119 46).toNatClampNeg)) - 1).toNatClampNeg) (((6 * (gI M 119 46)) + (gI M 176 (gI M 119 46).toNatClampNeg)) - 1))) else if a1 = 14 then (lt (sI M 119 78 8) fun M_7 => lt (sI M_7 119 79 a2) fun M_8 => some M_8) else if a1 = 15 then (lt (sI M 119 78 (-1)) fun M_9 => some M_9) else gd (inR (gI M 119 46) 4) <| lt ((40 * (gI M 119 46)) + (gI M 172 (gI M 119 46).toNatClampNeg)) fun v_1 => gd (inR v_1 160) <| lt (sI M 173 v_1.toNatClampNeg a2) fun M_10 => gd (inR v_1 160) <| lt (sI M_10 174 v_1.toNatClampNeg a3) fun M_11 => gd (inR v_1 160) <| lt (sL M_11 175 v_1.toNatClampNeg (gL M_11 119 47)) fun M_12 => gd (inR (gI M_12 119 46) 4) <| gd (inR (gI M_12 119 46) 4) <| lt (sI M_12 172 (gI M_12 119 46).toNatClampNeg ((gI M_12 172 (gI M_12 119 46).toNatClampNeg) + 1)) fun M_13 => some M_13
set_option maxRecDepth 100000 in
set_option maxHeartbeats 4000000 in
theorem c_X9_act {l : Launch} {G : va_G} {cy : Nat → ClassId} {B nT : Nat} {M : Mem} {a1 : Int32} {a2 : Int32} {a3 : Int32} {out : Mem} (h : f_X9_act M a1 a2 a3 = some out) : Met l yX9_act (wsU yX9_act cX9_act 5 none) rmX9_act (va_Pc [.ref (B + 119), .int a1, .int a2, .int a3] (PU G B cy nT M)) (Qv G B cy nT out) 0 0 (FB B) := by
  refine r_met (by decide +kernel) RX9 rfl (Nat.le_of_ble_eq_true rfl) ?_
  intro p e s m args below meth c ls X hP hl
  have hl : lv_has ls 5 [(0, .ref (B + 119)), (1, .int a1), (2, .int a2), (3, .int a3)] := hl
  have hS : va_S (FB B) s.heap s.heap [] := va_S.rf
  obtain ⟨hx, hb, hr, hml, hown, hts, hKn, hlk⟩ := id X
  unfold f_X9_act at h
  refine lv_iload_n hx hb dX9_act_0 rfl (lv_at hl 1 rfl) ?_
  by_cases h_1 : a1 = 0
  · replace h := if_elp h h_1
    refine lv_tableIn (off := 79) (tgt := 80) hx hb dX9_act_1 (by rw [h_1]; decide) (by rw [h_1]; decide) (by rw [h_1]; rfl) (by decide) ?_
    refine lv_aload_n hx hb dX9_act_80 rfl (lv_at hl 0 rfl) ?_
    refine lv_iload_n hx hb dX9_act_81 rfl (lv_at hl 2 rfl) ?_
    refine lv_i2l (v := (Int32.toInt64 a2)) hx hb dX9_act_82 rfl ?_
    obtain ⟨M_1, e_1, h⟩ := lt_el h
    refine pf_X9_287 X hP hS e_1 dX9_act_83 (fun H locs hP hS => ?_)
    refine lv_goto (tgt := 512) hx hb dX9_act_86 (by decide) ?_
    exact r_vret X hP hS (pr0 h) dX9_act_512
  · replace h := if_eln h h_1
    by_cases h_2 : a1 = 1
    · replace h := if_elp h h_2
      refine lv_tableIn (off := 88) (tgt := 89) hx hb dX9_act_1 (by rw [h_2]; decide) (by rw [h_2]; decide) (by rw [h_2]; rfl) (by decide) ?_
      refine lv_aload_n hx hb dX9_act_89 rfl (lv_at hl 0 rfl) ?_
      refine lv_aload_n hx hb dX9_act_90 rfl (lv_at hl 0 rfl) ?_
      refine lv_iload_n hx hb dX9_act_91 rfl (lv_at hl 2 rfl) ?_
      refine lv_iconst (v := 1) hx hb dX9_act_92 (by decide) ?_
      obtain ⟨r_1, h_3, h⟩ := bd_el h
      refine cl_i (rn_V (C := RX9) (ci := 9) X hP (c_X9_is h_3) kq_119 rfl k_745 k_746 k_914 k_9 k_747 rfl hd_X9_is (n := 2) ⟨⟨rfl, rfl⟩, Nat.le_of_ble_eq_true rfl, Nat.le_of_ble_eq_true rfl⟩ (As := [.int a2, .int 1]) (rest := [.ref (B + 119)]) rfl hl.1 rfl (Nat.le_of_ble_eq_true rfl) dX9_act_93 ⟨Nat.zero_le _, Nat.zero_le _⟩) hS (fun H locs hP hS => ?_)
      refine lv_if_eq (tgt := 107) hx hb dX9_act_96 (by decide) (fun hc => ?_) (fun hc => ?_)
      · replace h := if_elp h hc
        refine lv_aload_n hx hb dX9_act_107 rfl (lv_at hl 0 rfl) ?_
        refine gf_X9_287 X hP dX9_act_108 ?_
        exact w_X9_act_111 X hP hS (lv_sub hl [] rfl) h
      · replace h := if_eln h hc
        refine lv_aload_n hx hb dX9_act_99 rfl (lv_at hl 0 rfl) ?_
        refine lv_iload_n hx hb dX9_act_100 rfl (lv_at hl 2 rfl) ?_
        obtain ⟨r_2, h_4, h⟩ := bd_el h
        refine cl_l (rn_V (C := RX9) (ci := 9) X hP (c_X9_numberNow h_4) kq_119 rfl k_754 k_755 k_917 k_9 k_756 rfl hd_X9_numberNow (n := 1) ⟨⟨rfl, rfl⟩, Nat.le_of_ble_eq_true rfl, Nat.le_of_ble_eq_true rfl⟩ (As := [.int a2]) (rest := [.ref (B + 119)]) rfl hl.1 rfl (Nat.le_of_ble_eq_true rfl) dX9_act_101 ⟨Nat.zero_le _, Nat.zero_le _⟩) hS (fun H locs hP hS => ?_)
        refine lv_goto (tgt := 111) hx hb dX9_act_104 (by decide) ?_
        exact w_X9_act_111 X hP hS (lv_sub hl [] rfl) h
    · replace h := if_eln h h_2
      by_cases h_5 : a1 = 2
      · replace h := if_elp h h_5
        refine lv_tableIn (off := 116) (tgt := 117) hx hb dX9_act_1 (by rw [h_5]; decide) (by rw [h_5]; decide) (by rw [h_5]; rfl) (by decide) ?_
        refine lv_aload_n hx hb dX9_act_117 rfl (lv_at hl 0 rfl) ?_
        refine lv_iload_n hx hb dX9_act_118 rfl (lv_at hl 2 rfl) ?_
        refine lv_iconst (v := 1) hx hb dX9_act_119 (by decide) ?_
        refine lv_aload_n hx hb dX9_act_120 rfl (lv_at hl 0 rfl) ?_
        refine gf_X9_287 X hP dX9_act_121 ?_
        refine lv_iconst (v := 0) hx hb dX9_act_124 (by decide) ?_
        refine lv_iconst (v := 0) hx hb dX9_act_125 (by decide) ?_
        obtain ⟨r_3, h_6, h⟩ := bd_el h
        refine cl_v (rn_V (C := RX9) (ci := 9) X hP (c_X9_write h_6) kq_119 rfl k_757 k_758 k_918 k_9 k_759 rfl hd_X9_write (n := 5) ⟨⟨rfl, rfl⟩, Nat.le_of_ble_eq_true rfl, Nat.le_of_ble_eq_true rfl⟩ (As := [.int a2, .int 1, .long (gL M 119 47), .int 0, .int 0]) (rest := []) rfl hl.1 rfl (Nat.le_of_ble_eq_true rfl) dX9_act_126 ⟨Nat.zero_le _, Nat.zero_le _⟩) hS (fun H locs hP hS => ?_)
        refine lv_goto (tgt := 512) hx hb dX9_act_129 (by decide) ?_
        exact r_vret X hP hS (pr0 h) dX9_act_512
      · replace h := if_eln h h_5
        by_cases h_7 : a1 = 3
        · replace h := if_elp h h_7
          refine lv_tableIn (off := 131) (tgt := 132) hx hb dX9_act_1 (by rw [h_7]; decide) (by rw [h_7]; decide) (by rw [h_7]; rfl) (by decide) ?_
          refine lv_aload_n hx hb dX9_act_132 rfl (lv_at hl 0 rfl) ?_
          refine lv_iload_n hx hb dX9_act_133 rfl (lv_at hl 2 rfl) ?_
          refine lv_iconst (v := 1) hx hb dX9_act_134 (by decide) ?_
          obtain ⟨r_4, h_8, h⟩ := bd_el h
          refine cl_i (rn_V (C := RX9) (ci := 9) X hP (c_X9_is h_8) kq_119 rfl k_745 k_746 k_914 k_9 k_747 rfl hd_X9_is (n := 2) ⟨⟨rfl, rfl⟩, Nat.le_of_ble_eq_true rfl, Nat.le_of_ble_eq_true rfl⟩ (As := [.int a2, .int 1]) (rest := []) rfl hl.1 rfl (Nat.le_of_ble_eq_true rfl) dX9_act_135 ⟨Nat.zero_le _, Nat.zero_le _⟩) hS (fun H locs hP hS => ?_)
          refine lv_if_eq (tgt := 512) hx hb dX9_act_138 (by decide) (fun hc => ?_) (fun hc => ?_)
          · replace h := if_elp h hc
            exact r_vret X hP hS (pr0 h) dX9_act_512
          · replace h := if_eln h hc
            refine lv_aload_n hx hb dX9_act_141 rfl (lv_at hl 0 rfl) ?_
            refine lv_aload_n hx hb dX9_act_142 rfl (lv_at hl 0 rfl) ?_
            refine lv_iload_n hx hb dX9_act_143 rfl (lv_at hl 2 rfl) ?_
            obtain ⟨r_5, h_9, h⟩ := bd_el h
            refine cl_l (rn_V (C := RX9) (ci := 9) X hP (c_X9_numberNow h_9) kq_119 rfl k_754 k_755 k_917 k_9 k_756 rfl hd_X9_numberNow (n := 1) ⟨⟨rfl, rfl⟩, Nat.le_of_ble_eq_true rfl, Nat.le_of_ble_eq_true rfl⟩ (As := [.int a2]) (rest := [.ref (B + 119)]) rfl hl.1 rfl (Nat.le_of_ble_eq_true rfl) dX9_act_144 ⟨Nat.zero_le _, Nat.zero_le _⟩) hS (fun H locs hP hS => ?_)
            obtain ⟨r_6, h_10, h⟩ := bd_el h
            refine cl_v (rn_V (C := RX9) (ci := 9) X hP (c_X9_plus h_10) kq_119 rfl k_760 k_761 k_919 k_9 k_762 rfl hd_X9_plus (n := 1) ⟨⟨rfl, rfl⟩, Nat.le_of_ble_eq_true rfl, Nat.le_of_ble_eq_true rfl⟩ (As := [.long r_5]) (rest := []) rfl hl.1 rfl (Nat.le_of_ble_eq_true rfl) dX9_act_147 ⟨Nat.zero_le _, Nat.zero_le _⟩) hS (fun H locs hP hS => ?_)
            refine lv_goto (tgt := 512) hx hb dX9_act_150 (by decide) ?_
            exact r_vret X hP hS (pr0 h) dX9_act_512
        · replace h := if_eln h h_7
          by_cases h_11 : a1 = 4
          · replace h := if_elp h h_11
            refine lv_tableIn (off := 152) (tgt := 153) hx hb dX9_act_1 (by rw [h_11]; decide) (by rw [h_11]; decide) (by rw [h_11]; rfl) (by decide) ?_
            refine lv_aload_n hx hb dX9_act_153 rfl (lv_at hl 0 rfl) ?_
            refine lv_iload_n hx hb dX9_act_154 rfl (lv_at hl 2 rfl) ?_
            refine lv_i2l (v := (Int32.toInt64 a2)) hx hb dX9_act_155 rfl ?_
            obtain ⟨r_7, h_12, h⟩ := bd_el h
            refine cl_v (rn_V (C := RX9) (ci := 9) X hP (c_X9_plus h_12) kq_119 rfl k_760 k_761 k_919 k_9 k_762 rfl hd_X9_plus (n := 1) ⟨⟨rfl, rfl⟩, Nat.le_of_ble_eq_true rfl, Nat.le_of_ble_eq_true rfl⟩ (As := [.long (Int32.toInt64 a2)]) (rest := []) rfl hl.1 rfl (Nat.le_of_ble_eq_true rfl) dX9_act_156 ⟨Nat.zero_le _, Nat.zero_le _⟩) hS (fun H locs hP hS => ?_)
            refine lv_goto (tgt := 512) hx hb dX9_act_159 (by decide) ?_
            exact r_vret X hP hS (pr0 h) dX9_act_512
          · replace h := if_eln h h_11
            by_cases h_13 : a1 = 5
            · replace h := if_elp h h_13
              refine lv_tableIn (off := 161) (tgt := 162) hx hb dX9_act_1 (by rw [h_13]; decide) (by rw [h_13]; decide) (by rw [h_13]; rfl) (by decide) ?_
              refine lv_aload_n hx hb dX9_act_162 rfl (lv_at hl 0 rfl) ?_
              refine gf_X9_287 X hP dX9_act_163 ?_
              refine lv_iload_n hx hb dX9_act_166 rfl (lv_at hl 2 rfl) ?_
              refine lv_i2l (v := (Int32.toInt64 a2)) hx hb dX9_act_167 rfl ?_
              obtain ⟨r_8, h_14, h⟩ := bd_el h
              refine cl_i (rn_S X hP (c_X9_timesUp h_14) k_768 k_769 k_9 k_770 hd_X9_timesUp (n := 2) ⟨⟨rfl, rfl⟩, Nat.le_of_ble_eq_true rfl, Nat.le_of_ble_eq_true rfl⟩ (As := [.long (gL M 119 47), .long (Int32.toInt64 a2)]) (rest := []) rfl hl.1 rfl (Nat.le_of_ble_eq_true rfl) dX9_act_168 ⟨Nat.zero_le _, Nat.zero_le _⟩) hS (fun H locs hP hS => ?_)
              refine lv_if_eq (tgt := 188) hx hb dX9_act_171 (by decide) (fun hc => ?_) (fun hc => ?_)
              · replace h := if_elp h hc
                refine lv_aload_n hx hb dX9_act_188 rfl (lv_at hl 0 rfl) ?_
                refine lv_iconst (v := 5) hx hb dX9_act_189 (by decide) ?_
                obtain ⟨M_2, e_2, h⟩ := lt_el h
                refine pf_X9_278 X hP hS e_2 dX9_act_190 (fun H locs hP hS => ?_)
                refine lv_goto (tgt := 512) hx hb dX9_act_193 (by decide) ?_
                exact r_vret X hP hS (pr0 h) dX9_act_512
              · replace h := if_eln h hc
                refine lv_aload_n hx hb dX9_act_174 rfl (lv_at hl 0 rfl) ?_
                refine lv_aload_n hx hb dX9_act_175 rfl (lv_at hl 0 rfl) ?_
                refine gf_X9_287 X hP dX9_act_176 ?_
                refine lv_iload_n hx hb dX9_act_179 rfl (lv_at hl 2 rfl) ?_
                refine lv_i2l (v := (Int32.toInt64 a2)) hx hb dX9_act_180 rfl ?_
                refine lv_lmul hx hb dX9_act_181 ?_
                obtain ⟨M_3, e_3, h⟩ := lt_el h
                refine pf_X9_287 X hP hS e_3 dX9_act_182 (fun H locs hP hS => ?_)
                refine lv_goto (tgt := 512) hx hb dX9_act_185 (by decide) ?_
                exact r_vret X hP hS (pr0 h) dX9_act_512
            · replace h := if_eln h h_13
              by_cases h_15 : a1 = 6
              · replace h := if_elp h h_15
                refine lv_tableIn (off := 195) (tgt := 196) hx hb dX9_act_1 (by rw [h_15]; decide) (by rw [h_15]; decide) (by rw [h_15]; rfl) (by decide) ?_
                refine lv_aload_n hx hb dX9_act_196 rfl (lv_at hl 0 rfl) ?_
                refine lv_iload_n hx hb dX9_act_197 rfl (lv_at hl 2 rfl) ?_
                obtain ⟨r_9, h_16, h⟩ := bd_el h
                refine cl_v (rn_V (C := RX9) (ci := 9) X hP (c_X9_part h_16) kq_119 rfl k_772 k_773 k_920 k_9 k_774 rfl hd_X9_part (n := 1) ⟨⟨rfl, rfl⟩, Nat.le_of_ble_eq_true rfl, Nat.le_of_ble_eq_true rfl⟩ (As := [.int a2]) (rest := []) rfl hl.1 rfl (Nat.le_of_ble_eq_true rfl) dX9_act_198 ⟨Nat.zero_le _, Nat.zero_le _⟩) hS (fun H locs hP hS => ?_)
                refine lv_goto (tgt := 512) hx hb dX9_act_201 (by decide) ?_
                exact r_vret X hP hS (pr0 h) dX9_act_512
              · replace h := if_eln h h_15
                by_cases h_17 : a1 = 7
                · replace h := if_elp h h_17
                  refine lv_tableIn (off := 203) (tgt := 204) hx hb dX9_act_1 (by rw [h_17]; decide) (by rw [h_17]; decide) (by rw [h_17]; rfl) (by decide) ?_
                  refine lv_aload_n hx hb dX9_act_204 rfl (lv_at hl 0 rfl) ?_
                  refine gf_X9_287 X hP dX9_act_205 ?_
                  obtain ⟨r_10, h_18, h⟩ := bd_el h
                  refine cl_i (rn_S X hP (c_X9_isCell h_18) k_642 k_643 k_9 k_644 hd_X9_isCell (n := 1) ⟨⟨rfl, rfl⟩, Nat.le_of_ble_eq_true rfl, Nat.le_of_ble_eq_true rfl⟩ (As := [.long (gL M 119 47)]) (rest := []) rfl hl.1 rfl (Nat.le_of_ble_eq_true rfl) dX9_act_208 ⟨Nat.zero_le _, Nat.zero_le _⟩) hS (fun H locs hP hS => ?_)
                  refine lv_if_ne (tgt := 222) hx hb dX9_act_211 (by decide) (fun hc => ?_) (fun hc => ?_)
                  · replace h := if_eln h hc
                    refine lv_aload_n hx hb dX9_act_222 rfl (lv_at hl 0 rfl) ?_
                    refine lv_aload_n hx hb dX9_act_223 rfl (lv_at hl 0 rfl) ?_
                    refine gf_X9_287 X hP dX9_act_224 ?_
                    refine lv_l2i (v := (Int64.toInt32 (gL M 119 47))) hx hb dX9_act_227 rfl ?_
                    refine lv_iconst (v := 1) hx hb dX9_act_228 (by decide) ?_
                    obtain ⟨r_11, h_19, h⟩ := bd_el h
                    refine cl_i (rn_V (C := RX9) (ci := 9) X hP (c_X9_is h_19) kq_119 rfl k_745 k_746 k_914 k_9 k_747 rfl hd_X9_is (n := 2) ⟨⟨rfl, rfl⟩, Nat.le_of_ble_eq_true rfl, Nat.le_of_ble_eq_true rfl⟩ (As := [.int (Int64.toInt32 (gL M 119 47)), .int 1]) (rest := []) rfl hl.1 rfl (Nat.le_of_ble_eq_true rfl) dX9_act_229 ⟨Nat.zero_le _, Nat.zero_le _⟩) hS (fun H locs hP hS => ?_)
                    refine lv_if_eq (tgt := 512) hx hb dX9_act_232 (by decide) (fun hc => ?_) (fun hc => ?_)
                    · replace h := if_elp h hc
                      exact r_vret X hP hS (pr0 h) dX9_act_512
                    · replace h := if_eln h hc
                      refine lv_aload_n hx hb dX9_act_235 rfl (lv_at hl 0 rfl) ?_
                      refine lv_aload_n hx hb dX9_act_236 rfl (lv_at hl 0 rfl) ?_
                      refine lv_aload_n hx hb dX9_act_237 rfl (lv_at hl 0 rfl) ?_
                      refine gf_X9_287 X hP dX9_act_238 ?_
                      refine lv_l2i (v := (Int64.toInt32 (gL r_11.2 119 47))) hx hb dX9_act_241 rfl ?_
                      obtain ⟨r_12, h_20, h⟩ := bd_el h
                      refine cl_l (rn_V (C := RX9) (ci := 9) X hP (c_X9_numberNow h_20) kq_119 rfl k_754 k_755 k_917 k_9 k_756 rfl hd_X9_numberNow (n := 1) ⟨⟨rfl, rfl⟩, Nat.le_of_ble_eq_true rfl, Nat.le_of_ble_eq_true rfl⟩ (As := [.int (Int64.toInt32 (gL r_11.2 119 47))]) (rest := [.ref (B + 119)]) rfl hl.1 rfl (Nat.le_of_ble_eq_true rfl) dX9_act_242 ⟨Nat.zero_le _, Nat.zero_le _⟩) hS (fun H locs hP hS => ?_)
                      obtain ⟨M_4, e_4, h⟩ := lt_el h
                      refine pf_X9_287 X hP hS e_4 dX9_act_245 (fun H locs hP hS => ?_)
                      refine lv_goto (tgt := 512) hx hb dX9_act_248 (by decide) ?_
                      exact r_vret X hP hS (pr0 h) dX9_act_512
                  · replace h := if_elp h hc
                    refine lv_aload_n hx hb dX9_act_214 rfl (lv_at hl 0 rfl) ?_
                    refine lv_iconst (v := 2) hx hb dX9_act_215 (by decide) ?_
                    obtain ⟨M_5, e_5, h⟩ := lt_el h
                    refine pf_X9_278 X hP hS e_5 dX9_act_216 (fun H locs hP hS => ?_)
                    refine lv_goto (tgt := 512) hx hb dX9_act_219 (by decide) ?_
                    exact r_vret X hP hS (pr0 h) dX9_act_512
                · replace h := if_eln h h_17
                  by_cases h_21 : a1 = 8
                  · replace h := if_elp h h_21
                    refine lv_tableIn (off := 250) (tgt := 251) hx hb dX9_act_1 (by rw [h_21]; decide) (by rw [h_21]; decide) (by rw [h_21]; rfl) (by decide) ?_
                    refine lv_aload_n hx hb dX9_act_251 rfl (lv_at hl 0 rfl) ?_
                    refine lv_iload_n hx hb dX9_act_252 rfl (lv_at hl 2 rfl) ?_
                    refine lv_iconst (v := 1) hx hb dX9_act_253 (by decide) ?_
                    obtain ⟨r_13, h_22, h⟩ := bd_el h
                    refine cl_i (rn_V (C := RX9) (ci := 9) X hP (c_X9_is h_22) kq_119 rfl k_745 k_746 k_914 k_9 k_747 rfl hd_X9_is (n := 2) ⟨⟨rfl, rfl⟩, Nat.le_of_ble_eq_true rfl, Nat.le_of_ble_eq_true rfl⟩ (As := [.int a2, .int 1]) (rest := []) rfl hl.1 rfl (Nat.le_of_ble_eq_true rfl) dX9_act_254 ⟨Nat.zero_le _, Nat.zero_le _⟩) hS (fun H locs hP hS => ?_)
                    refine lv_if_eq (tgt := 512) hx hb dX9_act_257 (by decide) (fun hc => ?_) (fun hc => ?_)
                    · replace h := if_elp h hc
                      exact r_vret X hP hS (pr0 h) dX9_act_512
                    · replace h := if_eln h hc
                      refine lv_aload_n hx hb dX9_act_260 rfl (lv_at hl 0 rfl) ?_
                      refine lv_aload_n hx hb dX9_act_261 rfl (lv_at hl 0 rfl) ?_
                      refine gf_X9_287 X hP dX9_act_262 ?_
                      refine lv_aload_n hx hb dX9_act_265 rfl (lv_at hl 0 rfl) ?_
                      refine lv_iload_n hx hb dX9_act_266 rfl (lv_at hl 2 rfl) ?_
                      obtain ⟨r_14, h_23, h⟩ := bd_el h
                      refine cl_l (rn_V (C := RX9) (ci := 9) X hP (c_X9_numberNow h_23) kq_119 rfl k_754 k_755 k_917 k_9 k_756 rfl hd_X9_numberNow (n := 1) ⟨⟨rfl, rfl⟩, Nat.le_of_ble_eq_true rfl, Nat.le_of_ble_eq_true rfl⟩ (As := [.int a2]) (rest := [.long (gL r_13.2 119 47), .ref (B + 119)]) rfl hl.1 rfl (Nat.le_of_ble_eq_true rfl) dX9_act_267 ⟨Nat.zero_le _, Nat.zero_le _⟩) hS (fun H locs hP hS => ?_)
                      refine W.lcmp hx hb dX9_act_270 ?_
                      refine lv_if_ge (tgt := 278) hx hb dX9_act_271 (by decide) (fun hc => ?_) (fun hc => ?_)
                      · replace h := if_elp h (lc_ge.mp hc)
                        refine lv_lconst (v := 0) hx hb dX9_act_278 rfl ?_
                        exact w_X9_act_279 X hP hS (lv_sub hl [] rfl) h
                      · replace h := if_eln h (fun z => hc (lc_ge.mpr z))
                        refine lv_lconst (v := 1) hx hb dX9_act_274 rfl ?_
                        refine lv_goto (tgt := 279) hx hb dX9_act_275 (by decide) ?_
                        exact w_X9_act_279 X hP hS (lv_sub hl [] rfl) h
                  · replace h := if_eln h h_21
                    by_cases h_24 : a1 = 9
                    · replace h := if_elp h h_24
                      refine lv_tableIn (off := 284) (tgt := 285) hx hb dX9_act_1 (by rw [h_24]; decide) (by rw [h_24]; decide) (by rw [h_24]; rfl) (by decide) ?_
                      refine lv_aload_n hx hb dX9_act_285 rfl (lv_at hl 0 rfl) ?_
                      refine lv_aload_n hx hb dX9_act_286 rfl (lv_at hl 0 rfl) ?_
                      refine lv_iload_n hx hb dX9_act_287 rfl (lv_at hl 2 rfl) ?_
                      refine lv_iconst (v := 2) hx hb dX9_act_288 (by decide) ?_
                      obtain ⟨r_15, h_25, h⟩ := bd_el h
                      refine cl_i (rn_V (C := RX9) (ci := 9) X hP (c_X9_is h_25) kq_119 rfl k_745 k_746 k_914 k_9 k_747 rfl hd_X9_is (n := 2) ⟨⟨rfl, rfl⟩, Nat.le_of_ble_eq_true rfl, Nat.le_of_ble_eq_true rfl⟩ (As := [.int a2, .int 2]) (rest := [.ref (B + 119)]) rfl hl.1 rfl (Nat.le_of_ble_eq_true rfl) dX9_act_289 ⟨Nat.zero_le _, Nat.zero_le _⟩) hS (fun H locs hP hS => ?_)
                      refine lv_if_eq (tgt := 303) hx hb dX9_act_292 (by decide) (fun hc => ?_) (fun hc => ?_)
                      · replace h := if_elp h hc
                        refine lv_aload_n hx hb dX9_act_303 rfl (lv_at hl 0 rfl) ?_
                        refine gf_X9_287 X hP dX9_act_304 ?_
                        exact w_X9_act_307 X hP hS (lv_sub hl [] rfl) h
                      · replace h := if_eln h hc
                        refine lv_aload_n hx hb dX9_act_295 rfl (lv_at hl 0 rfl) ?_
                        refine lv_iload_n hx hb dX9_act_296 rfl (lv_at hl 2 rfl) ?_
                        obtain ⟨r_16, h_26, h⟩ := bd_el h
                        refine cl_l (rn_V (C := RX9) (ci := 9) X hP (c_X9_numberNow h_26) kq_119 rfl k_754 k_755 k_917 k_9 k_756 rfl hd_X9_numberNow (n := 1) ⟨⟨rfl, rfl⟩, Nat.le_of_ble_eq_true rfl, Nat.le_of_ble_eq_true rfl⟩ (As := [.int a2]) (rest := [.ref (B + 119)]) rfl hl.1 rfl (Nat.le_of_ble_eq_true rfl) dX9_act_297 ⟨Nat.zero_le _, Nat.zero_le _⟩) hS (fun H locs hP hS => ?_)
                        refine lv_goto (tgt := 307) hx hb dX9_act_300 (by decide) ?_
                        exact w_X9_act_307 X hP hS (lv_sub hl [] rfl) h
                    · replace h := if_eln h h_24
                      by_cases h_27 : a1 = 10
                      · replace h := if_elp h h_27
                        refine lv_tableIn (off := 312) (tgt := 313) hx hb dX9_act_1 (by rw [h_27]; decide) (by rw [h_27]; decide) (by rw [h_27]; rfl) (by decide) ?_
                        refine lv_aload_n hx hb dX9_act_313 rfl (lv_at hl 0 rfl) ?_
                        refine lv_iload_n hx hb dX9_act_314 rfl (lv_at hl 2 rfl) ?_
                        refine lv_iload_n hx hb dX9_act_315 rfl (lv_at hl 3 rfl) ?_
                        obtain ⟨r_17, h_28, h⟩ := bd_el h
                        refine cl_v (rn_V (C := RX9) (ci := 9) X hP (c_X9_give h_28) kq_119 rfl k_775 k_776 k_921 k_9 k_777 rfl hd_X9_give (n := 2) ⟨⟨rfl, rfl⟩, Nat.le_of_ble_eq_true rfl, Nat.le_of_ble_eq_true rfl⟩ (As := [.int a2, .int a3]) (rest := []) rfl hl.1 rfl (Nat.le_of_ble_eq_true rfl) dX9_act_316 ⟨Nat.zero_le _, Nat.zero_le _⟩) hS (fun H locs hP hS => ?_)
                        refine lv_goto (tgt := 512) hx hb dX9_act_319 (by decide) ?_
                        exact r_vret X hP hS (pr0 h) dX9_act_512
                      · replace h := if_eln h h_27
                        by_cases h_29 : a1 = 11
                        · replace h := if_elp h h_29
                          refine lv_tableIn (off := 321) (tgt := 322) hx hb dX9_act_1 (by rw [h_29]; decide) (by rw [h_29]; decide) (by rw [h_29]; rfl) (by decide) ?_
                          refine lv_aload_n hx hb dX9_act_322 rfl (lv_at hl 0 rfl) ?_
                          refine lv_iload_n hx hb dX9_act_323 rfl (lv_at hl 2 rfl) ?_
                          refine lv_iload_n hx hb dX9_act_324 rfl (lv_at hl 3 rfl) ?_
                          obtain ⟨r_18, h_30, h⟩ := bd_el h
                          refine cl_v (rn_V (C := RX9) (ci := 9) X hP (c_X9_swap h_30) kq_119 rfl k_784 k_785 k_924 k_9 k_786 rfl hd_X9_swap (n := 2) ⟨⟨rfl, rfl⟩, Nat.le_of_ble_eq_true rfl, Nat.le_of_ble_eq_true rfl⟩ (As := [.int a2, .int a3]) (rest := []) rfl hl.1 rfl (Nat.le_of_ble_eq_true rfl) dX9_act_325 ⟨Nat.zero_le _, Nat.zero_le _⟩) hS (fun H locs hP hS => ?_)
                          refine lv_goto (tgt := 512) hx hb dX9_act_328 (by decide) ?_
                          exact r_vret X hP hS (pr0 h) dX9_act_512
                        · replace h := if_eln h h_29
                          by_cases h_31 : a1 = 12
                          · replace h := if_elp h h_31
                            refine lv_tableIn (off := 330) (tgt := 331) hx hb dX9_act_1 (by rw [h_31]; decide) (by rw [h_31]; decide) (by rw [h_31]; rfl) (by decide) ?_
                            refine lv_aload_n hx hb dX9_act_331 rfl (lv_at hl 0 rfl) ?_
                            refine gf_X9_166 X hP dX9_act_332 ?_
                            refine lv_aload_n hx hb dX9_act_335 rfl (lv_at hl 0 rfl) ?_
                            refine gf_X9_267 X hP dX9_act_336 ?_
                            obtain ⟨g_1, h⟩ := gd_el h
                            refine r_iald X hP kq_170 g_1 dX9_act_339 ?_
                            refine lv_bipush (v := 8) hx hb dX9_act_340 (by decide) ?_
                            refine lv_icmp_ge (tgt := 371) hx hb dX9_act_342 (by decide) (fun hc => ?_) (fun hc => ?_)
                            · replace h := if_elp h hc
                              exact w_X9_act_371 X hP hS (lv_sub hl [0] rfl) h
                            · replace h := if_eln h hc
                              refine lv_aload_n hx hb dX9_act_345 rfl (lv_at hl 0 rfl) ?_
                              refine gf_X9_169 X hP dX9_act_346 ?_
                              refine lv_bipush (v := 8) hx hb dX9_act_349 (by decide) ?_
                              refine lv_aload_n hx hb dX9_act_351 rfl (lv_at hl 0 rfl) ?_
                              refine gf_X9_267 X hP dX9_act_352 ?_
                              refine lv_imul hx hb dX9_act_355 ?_
                              refine lv_aload_n hx hb dX9_act_356 rfl (lv_at hl 0 rfl) ?_
                              refine gf_X9_166 X hP dX9_act_357 ?_
                              refine lv_aload_n hx hb dX9_act_360 rfl (lv_at hl 0 rfl) ?_
                              refine gf_X9_267 X hP dX9_act_361 ?_
                              obtain ⟨g_2, h⟩ := gd_el h
                              refine r_iald X hP kq_170 g_2 dX9_act_364 ?_
                              refine lv_iadd hx hb dX9_act_365 ?_
                              refine lv_aload_n hx hb dX9_act_366 rfl (lv_at hl 0 rfl) ?_
                              refine gf_X9_287 X hP dX9_act_367 ?_
                              obtain ⟨g_3, h⟩ := gd_el h
                              obtain ⟨M_6, e_6, h⟩ := lt_el h
                              refine r_last X hP hS kq_171 g_3 e_6 dX9_act_370 (fun H locs hP hS => ?_)
                              exact w_X9_act_371 X hP hS (lv_sub hl [0] rfl) h
                          · replace h := if_eln h h_31
                            by_cases h_32 : a1 = 13
                            · replace h := if_elp h h_32
                              refine lv_tableIn (off := 386) (tgt := 387) hx hb dX9_act_1 (by rw [h_32]; decide) (by rw [h_32]; decide) (by rw [h_32]; rfl) (by decide) ?_
                              refine lv_aload_n hx hb dX9_act_387 rfl (lv_at hl 0 rfl) ?_
                              refine gf_X9_190 X hP dX9_act_388 ?_
                              refine lv_bipush (v := 6) hx hb dX9_act_391 (by decide) ?_
                              refine lv_aload_n hx hb dX9_act_393 rfl (lv_at hl 0 rfl) ?_
                              refine gf_X9_267 X hP dX9_act_394 ?_
                              refine lv_imul hx hb dX9_act_397 ?_
                              refine lv_aload_n hx hb dX9_act_398 rfl (lv_at hl 0 rfl) ?_
                              refine gf_X9_184 X hP dX9_act_399 ?_
                              refine lv_aload_n hx hb dX9_act_402 rfl (lv_at hl 0 rfl) ?_
                              refine gf_X9_267 X hP dX9_act_403 ?_
                              obtain ⟨g_4, h⟩ := gd_el h
                              refine r_iald X hP kq_176 g_4 dX9_act_406 ?_
                              refine lv_iadd hx hb dX9_act_407 ?_
                              refine lv_iconst (v := 1) hx hb dX9_act_408 (by decide) ?_
                              refine lv_isub hx hb dX9_act_409 ?_
                              refine lv_dup2_11 hx hb dX9_act_410 rfl rfl ?_
                              obtain ⟨g_5, h⟩ := gd_el h
                              refine r_iald X hP kq_178 g_5 dX9_act_411 ?_
                              refine lv_aload_n hx hb dX9_act_412 rfl (lv_at hl 0 rfl) ?_
                              refine gf_X9_287 X hP dX9_act_413 ?_
                              refine lv_lconst (v := 0) hx hb dX9_act_416 rfl ?_
                              refine W.lcmp hx hb dX9_act_417 ?_
                              refine lv_if_ne (tgt := 425) hx hb dX9_act_418 (by decide) (fun hc => ?_) (fun hc => ?_)
                              · replace h := if_eln h (fun z => hc (lc_eq.mpr z))
                                refine lv_iconst (v := 0) hx hb dX9_act_425 (by decide) ?_
                                exact w_X9_act_426 X hP hS (lv_sub hl [] rfl) h
                              · replace h := if_elp h (lc_eq.mp hc)
                                refine lv_iload_n hx hb dX9_act_421 rfl (lv_at hl 2 rfl) ?_
                                refine lv_goto (tgt := 426) hx hb dX9_act_422 (by decide) ?_
                                exact w_X9_act_426 X hP hS (lv_sub hl [] rfl) h
                            · replace h := if_eln h h_32
                              by_cases h_33 : a1 = 14
                              · replace h := if_elp h h_33
                                refine lv_tableIn (off := 430) (tgt := 431) hx hb dX9_act_1 (by rw [h_33]; decide) (by rw [h_33]; decide) (by rw [h_33]; rfl) (by decide) ?_
                                refine lv_aload_n hx hb dX9_act_431 rfl (lv_at hl 0 rfl) ?_
                                refine lv_bipush (v := 8) hx hb dX9_act_432 (by decide) ?_
                                obtain ⟨M_7, e_7, h⟩ := lt_el h
                                refine pf_X9_278 X hP hS e_7 dX9_act_434 (fun H locs hP hS => ?_)
                                refine lv_aload_n hx hb dX9_act_437 rfl (lv_at hl 0 rfl) ?_
                                refine lv_iload_n hx hb dX9_act_438 rfl (lv_at hl 2 rfl) ?_
                                obtain ⟨M_8, e_8, h⟩ := lt_el h
                                refine pf_X9_333 X hP hS e_8 dX9_act_439 (fun H locs hP hS => ?_)
                                refine lv_goto (tgt := 512) hx hb dX9_act_442 (by decide) ?_
                                exact r_vret X hP hS (pr0 h) dX9_act_512
                              · replace h := if_eln h h_33
                                by_cases h_34 : a1 = 15
                                · replace h := if_elp h h_34
                                  refine lv_tableIn (off := 444) (tgt := 445) hx hb dX9_act_1 (by rw [h_34]; decide) (by rw [h_34]; decide) (by rw [h_34]; rfl) (by decide) ?_
                                  refine lv_aload_n hx hb dX9_act_445 rfl (lv_at hl 0 rfl) ?_
                                  refine lv_iconst (v := (-1)) hx hb dX9_act_446 (by decide) ?_
                                  obtain ⟨M_9, e_9, h⟩ := lt_el h
                                  refine pf_X9_278 X hP hS e_9 dX9_act_447 (fun H locs hP hS => ?_)
                                  refine lv_goto (tgt := 512) hx hb dX9_act_450 (by decide) ?_
                                  exact r_vret X hP hS (pr0 h) dX9_act_512
                                · replace h := if_eln h h_34
                                  refine lv_tableOut (tgt := 453) hx hb dX9_act_1 (by have z0 := lv_neT (a := 0) h_1 rfl; have z1 := lv_neT (a := 1) h_2 rfl; have z2 := lv_neT (a := 2) h_5 rfl; have z3 := lv_neT (a := 3) h_7 rfl; have z4 := lv_neT (a := 4) h_11 rfl; have z5 := lv_neT (a := 5) h_13 rfl; have z6 := lv_neT (a := 6) h_15 rfl; have z7 := lv_neT (a := 7) h_17 rfl; have z8 := lv_neT (a := 8) h_21 rfl; have z9 := lv_neT (a := 9) h_24 rfl; have z10 := lv_neT (a := 10) h_27 rfl; have z11 := lv_neT (a := 11) h_29 rfl; have z12 := lv_neT (a := 12) h_31 rfl; have z13 := lv_neT (a := 13) h_32 rfl; have z14 := lv_neT (a := 14) h_33 rfl; have z15 := lv_neT (a := 15) h_34 rfl; omega) (by decide) ?_
                                  refine lv_bipush (v := 40) hx hb dX9_act_453 (by decide) ?_
                                  refine lv_aload_n hx hb dX9_act_455 rfl (lv_at hl 0 rfl) ?_
                                  refine gf_X9_267 X hP dX9_act_456 ?_
                                  refine lv_imul hx hb dX9_act_459 ?_
                                  refine lv_aload_n hx hb dX9_act_460 rfl (lv_at hl 0 rfl) ?_
                                  refine gf_X9_172 X hP dX9_act_461 ?_
                                  refine lv_aload_n hx hb dX9_act_464 rfl (lv_at hl 0 rfl) ?_
                                  refine gf_X9_267 X hP dX9_act_465 ?_
                                  obtain ⟨g_6, h⟩ := gd_el h
                                  refine r_iald X hP kq_172 g_6 dX9_act_468 ?_
                                  refine lv_iadd hx hb dX9_act_469 ?_
                                  obtain ⟨v_1, e_10, h⟩ := lt_el h
                                  refine r_topi e_10 ?_
                                  refine lv_istore (lv' := [(4, .int v_1), (0, .ref (B + 119)), (1, .int a1), (2, .int a2), (3, .int a3)]) hx hb dX9_act_470 hl (by decide) rfl (fun ls hl => ?_)
                                  refine lv_aload_n hx hb dX9_act_472 rfl (lv_at hl 1 rfl) ?_
                                  refine gf_X9_175 X hP dX9_act_473 ?_
                                  refine lv_iload hx hb dX9_act_476 (lv_at hl 0 rfl) ?_
                                  refine lv_iload_n hx hb dX9_act_478 rfl (lv_at hl 3 rfl) ?_
                                  obtain ⟨g_7, h⟩ := gd_el h
                                  obtain ⟨M_10, e_11, h⟩ := lt_el h
                                  refine r_iast X hP hS kq_173 g_7 e_11 dX9_act_479 (fun H locs hP hS => ?_)
                                  refine lv_aload_n hx hb dX9_act_480 rfl (lv_at hl 1 rfl) ?_
                                  refine gf_X9_178 X hP dX9_act_481 ?_
                                  refine lv_iload hx hb dX9_act_484 (lv_at hl 0 rfl) ?_
                                  refine lv_iload_n hx hb dX9_act_486 rfl (lv_at hl 4 rfl) ?_
                                  obtain ⟨g_8, h⟩ := gd_el h
                                  obtain ⟨M_11, e_12, h⟩ := lt_el h
                                  refine r_iast X hP hS kq_174 g_8 e_12 dX9_act_487 (fun H locs hP hS => ?_)
                                  refine lv_aload_n hx hb dX9_act_488 rfl (lv_at hl 1 rfl) ?_
                                  refine gf_X9_181 X hP dX9_act_489 ?_
                                  refine lv_iload hx hb dX9_act_492 (lv_at hl 0 rfl) ?_
                                  refine lv_aload_n hx hb dX9_act_494 rfl (lv_at hl 1 rfl) ?_
                                  refine gf_X9_287 X hP dX9_act_495 ?_
                                  obtain ⟨g_9, h⟩ := gd_el h
                                  obtain ⟨M_12, e_13, h⟩ := lt_el h
                                  refine r_last X hP hS kq_175 g_9 e_13 dX9_act_498 (fun H locs hP hS => ?_)
                                  refine lv_aload_n hx hb dX9_act_499 rfl (lv_at hl 1 rfl) ?_
                                  refine gf_X9_172 X hP dX9_act_500 ?_
                                  refine lv_aload_n hx hb dX9_act_503 rfl (lv_at hl 1 rfl) ?_
                                  refine gf_X9_267 X hP dX9_act_504 ?_
                                  refine lv_dup2_11 hx hb dX9_act_507 rfl rfl ?_
                                  obtain ⟨g_10, h⟩ := gd_el h
                                  refine r_iald X hP kq_172 g_10 dX9_act_508 ?_
                                  refine lv_iconst (v := 1) hx hb dX9_act_509 (by decide) ?_
                                  refine lv_iadd hx hb dX9_act_510 ?_
                                  obtain ⟨g_11, h⟩ := gd_el h
                                  obtain ⟨M_13, e_14, h⟩ := lt_el h
                                  refine r_iast X hP hS kq_172 g_11 e_14 dX9_act_511 (fun H locs hP hS => ?_)
                                  exact r_vret X hP hS (pr0 h) dX9_act_512
abbrev rmX9_goStep : Room := { frames := 4, cells := 0, slots := 0, locals := 95 }
def f_X9_goStep_46 (M : Mem) (v1 : Int32) (v2 : Int32) (v3 : Int32) : Option (Mem) :=
  gd (inR v2 384) <| gd (inR v2 384) <| Option.bind (f_X9_act M v3 (gI M 130 v2.toNatClampNeg) (gI M 131 v2.toNatClampNeg)) fun r_1 => if (gI r_1 119 78) = 0 then (gd (inR v1 24) <| gd (inR v1 24) <| lt (sI r_1 178 v1.toNatClampNeg ((gI r_1 178 v1.toNatClampNeg) + 1)) fun M_1 => some M_1) else (some r_1)
set_option maxRecDepth 100000 in
set_option maxHeartbeats 4000000 in
theorem w_X9_goStep_46 (X : Cx p s m args meth c cX9_goStep RX9 4 none G cy) {out : Mem} {M : Mem} {v1 : Int32} {v2 : Int32} {v3 : Int32} (hP : Pic G B cy nT M H) (hS : va_S (FB B) s.heap H locs) (hl : lv_has ls 4 [(0, .ref (B + 119)), (1, .int v1), (2, .int v2), (3, .int v3)]) (h : f_X9_goStep_46 M v1 v2 v3 = some out) : W p l e rmX9_goStep s m args below meth c H locs 0 0 (MQ below (Qv G B cy nT out) args s 0 0 (FB B)) (F0 m 46 ls []) := by
  obtain ⟨hx, hb, hr, hml, hown, hts, hKn, hlk⟩ := id X
  unfold f_X9_goStep_46 at h
  refine lv_aload_n hx hb dX9_goStep_46 rfl (lv_at hl 0 rfl) ?_
  refine lv_iload_n hx hb dX9_goStep_47 rfl (lv_at hl 3 rfl) ?_
  refine lv_aload_n hx hb dX9_goStep_48 rfl (lv_at hl 0 rfl) ?_
  refine gf_X9_41 X hP dX9_goStep_49 ?_
  refine lv_iload_n hx hb dX9_goStep_52 rfl (lv_at hl 2 rfl) ?_
  obtain ⟨g_1, h⟩ := gd_el h
  refine r_iald X hP kq_130 g_1 dX9_goStep_53 ?_
  refine lv_aload_n hx hb dX9_goStep_54 rfl (lv_at hl 0 rfl) ?_
  refine gf_X9_44 X hP dX9_goStep_55 ?_
  refine lv_iload_n hx hb dX9_goStep_58 rfl (lv_at hl 2 rfl) ?_
  obtain ⟨g_2, h⟩ := gd_el h
  refine r_iald X hP kq_131 g_2 dX9_goStep_59 ?_
  obtain ⟨r_1, h_1, h⟩ := bd_el h
  refine cl_v (rn_V (C := RX9) (ci := 9) X hP (c_X9_act h_1) kq_119 rfl k_742 k_743 k_913 k_9 k_744 rfl hd_X9_act (n := 3) ⟨⟨rfl, rfl⟩, Nat.le_of_ble_eq_true rfl, Nat.le_of_ble_eq_true rfl⟩ (As := [.int v3, .int (gI M 130 v2.toNatClampNeg), .int (gI M 131 v2.toNatClampNeg)]) (rest := []) rfl hl.1 rfl (Nat.le_of_ble_eq_true rfl) dX9_goStep_60 ⟨Nat.zero_le _, Nat.zero_le _⟩) hS (fun H locs hP hS => ?_)
  refine lv_aload_n hx hb dX9_goStep_63 rfl (lv_at hl 0 rfl) ?_
  refine gf_X9_278 X hP dX9_goStep_64 ?_
  refine lv_if_ne (tgt := 80) hx hb dX9_goStep_67 (by decide) (fun hc => ?_) (fun hc => ?_)
  · replace h := if_eln h hc
    exact r_vret X hP hS (pr0 h) dX9_goStep_80
  · replace h := if_elp h hc
    refine lv_aload_n hx hb dX9_goStep_70 rfl (lv_at hl 0 rfl) ?_
    refine gf_X9_190 X hP dX9_goStep_71 ?_
    refine lv_iload_n hx hb dX9_goStep_74 rfl (lv_at hl 1 rfl) ?_
    refine lv_dup2_11 hx hb dX9_goStep_75 rfl rfl ?_
    obtain ⟨g_3, h⟩ := gd_el h
    refine r_iald X hP kq_178 g_3 dX9_goStep_76 ?_
    refine lv_iconst (v := 1) hx hb dX9_goStep_77 (by decide) ?_
    refine lv_iadd hx hb dX9_goStep_78 ?_
    obtain ⟨g_4, h⟩ := gd_el h
    obtain ⟨M_1, e_1, h⟩ := lt_el h
    refine r_iast X hP hS kq_178 g_4 e_1 dX9_goStep_79 (fun H locs hP hS => ?_)
    exact r_vret X hP hS (pr0 h) dX9_goStep_80
def f_X9_goStep (M : Mem) (a1 : Int32) : Option (Mem) :=
  gd (inR a1 24) <| gd (inR a1 24) <| lt ((24 * (gI M 177 a1.toNatClampNeg)) + (gI M 178 a1.toNatClampNeg)) fun v_1 => gd (inR v_1 384) <| lt (gI M 129 v_1.toNatClampNeg) fun v_2 => lt (sI M 119 48 ((gI M 119 48) + 1)) fun M_1 => if v_2 < 16 then (f_X9_goStep_46 M_1 a1 v_1 v_2) else (if v_2 = 19 then (f_X9_goStep_46 M_1 a1 v_1 v_2) else (gd (inR (gI M_1 119 46) 4) <| if (gI M_1 176 (gI M_1 119 46).toNatClampNeg) = 6 then (lt (sI M_1 119 78 9) fun M_2 => if v_2 = 17 then (lt (sI M_2 119 78 0) fun M_3 => lt (sL M_3 119 47 (-10)) fun M_4 => gd (inR a1 24) <| gd (inR a1 24) <| lt (sI M_4 178 a1.toNatClampNeg ((gI M_4 178 a1.toNatClampNeg) + 1)) fun M_5 => some M_5) else (some M_2)) else (gd (inR v_1 384) <| Option.bind (f_X9_enter M_1 (gI M_1 130 v_1.toNatClampNeg) (v_2 - 16)) fun r_1 => some r_1)))
set_option maxRecDepth 100000 in
set_option maxHeartbeats 4000000 in
theorem c_X9_goStep {l : Launch} {G : va_G} {cy : Nat → ClassId} {B nT : Nat} {M : Mem} {a1 : Int32} {out : Mem} (h : f_X9_goStep M a1 = some out) : Met l yX9_goStep (wsU yX9_goStep cX9_goStep 4 none) rmX9_goStep (va_Pc [.ref (B + 119), .int a1] (PU G B cy nT M)) (Qv G B cy nT out) 0 0 (FB B) := by
  refine r_met (by decide +kernel) RX9 rfl (Nat.le_of_ble_eq_true rfl) ?_
  intro p e s m args below meth c ls X hP hl
  have hl : lv_has ls 4 [(0, .ref (B + 119)), (1, .int a1)] := hl
  have hS : va_S (FB B) s.heap s.heap [] := va_S.rf
  obtain ⟨hx, hb, hr, hml, hown, hts, hKn, hlk⟩ := id X
  unfold f_X9_goStep at h
  refine lv_bipush (v := 24) hx hb dX9_goStep_0 (by decide) ?_
  refine lv_aload_n hx hb dX9_goStep_2 rfl (lv_at hl 0 rfl) ?_
  refine gf_X9_187 X hP dX9_goStep_3 ?_
  refine lv_iload_n hx hb dX9_goStep_6 rfl (lv_at hl 1 rfl) ?_
  obtain ⟨g_1, h⟩ := gd_el h
  refine r_iald X hP kq_177 g_1 dX9_goStep_7 ?_
  refine lv_imul hx hb dX9_goStep_8 ?_
  refine lv_aload_n hx hb dX9_goStep_9 rfl (lv_at hl 0 rfl) ?_
  refine gf_X9_190 X hP dX9_goStep_10 ?_
  refine lv_iload_n hx hb dX9_goStep_13 rfl (lv_at hl 1 rfl) ?_
  obtain ⟨g_2, h⟩ := gd_el h
  refine r_iald X hP kq_178 g_2 dX9_goStep_14 ?_
  refine lv_iadd hx hb dX9_goStep_15 ?_
  obtain ⟨v_1, e_1, h⟩ := lt_el h
  refine r_topi e_1 ?_
  refine lv_istore_n (lv' := [(2, .int v_1), (0, .ref (B + 119)), (1, .int a1)]) hx hb dX9_goStep_16 rfl hl (by decide) rfl (fun ls hl => ?_)
  refine lv_aload_n hx hb dX9_goStep_17 rfl (lv_at hl 1 rfl) ?_
  refine gf_X9_38 X hP dX9_goStep_18 ?_
  refine lv_iload_n hx hb dX9_goStep_21 rfl (lv_at hl 0 rfl) ?_
  obtain ⟨g_3, h⟩ := gd_el h
  refine r_iald X hP kq_129 g_3 dX9_goStep_22 ?_
  obtain ⟨v_2, e_2, h⟩ := lt_el h
  refine r_topi e_2 ?_
  refine lv_istore_n (lv' := [(3, .int v_2), (2, .int v_1), (0, .ref (B + 119)), (1, .int a1)]) hx hb dX9_goStep_23 rfl hl (by decide) rfl (fun ls hl => ?_)
  refine lv_aload_n hx hb dX9_goStep_24 rfl (lv_at hl 2 rfl) ?_
  refine lv_dup hx hb dX9_goStep_25 rfl ?_
  refine gf_X9_336 X hP dX9_goStep_26 ?_
  refine lv_iconst (v := 1) hx hb dX9_goStep_29 (by decide) ?_
  refine lv_iadd hx hb dX9_goStep_30 ?_
  obtain ⟨M_1, e_3, h⟩ := lt_el h
  refine pf_X9_336 X hP hS e_3 dX9_goStep_31 (fun H locs hP hS => ?_)
  refine lv_iload_n hx hb dX9_goStep_34 rfl (lv_at hl 0 rfl) ?_
  refine lv_bipush (v := 16) hx hb dX9_goStep_35 (by decide) ?_
  refine lv_icmp_lt (tgt := 46) hx hb dX9_goStep_37 (by decide) (fun hc => ?_) (fun hc => ?_)
  · replace h := if_elp h hc
    exact w_X9_goStep_46 X hP hS (lv_sub hl [2, 3, 1, 0] rfl) h
  · replace h := if_eln h hc
    refine lv_iload_n hx hb dX9_goStep_40 rfl (lv_at hl 0 rfl) ?_
    refine lv_bipush (v := 19) hx hb dX9_goStep_41 (by decide) ?_
    refine lv_icmp_ne (tgt := 81) hx hb dX9_goStep_43 (by decide) (fun hc => ?_) (fun hc => ?_)
    · replace h := if_eln h hc
      refine lv_aload_n hx hb dX9_goStep_81 rfl (lv_at hl 2 rfl) ?_
      refine gf_X9_184 X hP dX9_goStep_82 ?_
      refine lv_aload_n hx hb dX9_goStep_85 rfl (lv_at hl 2 rfl) ?_
      refine gf_X9_267 X hP dX9_goStep_86 ?_
      obtain ⟨g_4, h⟩ := gd_el h
      refine r_iald X hP kq_176 g_4 dX9_goStep_89 ?_
      refine lv_bipush (v := 6) hx hb dX9_goStep_90 (by decide) ?_
      refine lv_icmp_ne (tgt := 130) hx hb dX9_goStep_92 (by decide) (fun hc => ?_) (fun hc => ?_)
      · replace h := if_eln h hc
        refine lv_aload_n hx hb dX9_goStep_130 rfl (lv_at hl 2 rfl) ?_
        refine lv_aload_n hx hb dX9_goStep_131 rfl (lv_at hl 2 rfl) ?_
        refine gf_X9_41 X hP dX9_goStep_132 ?_
        refine lv_iload_n hx hb dX9_goStep_135 rfl (lv_at hl 1 rfl) ?_
        obtain ⟨g_5, h⟩ := gd_el h
        refine r_iald X hP kq_130 g_5 dX9_goStep_136 ?_
        refine lv_iload_n hx hb dX9_goStep_137 rfl (lv_at hl 0 rfl) ?_
        refine lv_bipush (v := 16) hx hb dX9_goStep_138 (by decide) ?_
        refine lv_isub hx hb dX9_goStep_140 ?_
        obtain ⟨r_1, h_1, h⟩ := bd_el h
        refine cl_v (rn_V (C := RX9) (ci := 9) X hP (c_X9_enter h_1) kq_119 rfl k_733 k_734 k_910 k_9 k_735 rfl hd_X9_enter (n := 2) ⟨⟨rfl, rfl⟩, Nat.le_of_ble_eq_true rfl, Nat.le_of_ble_eq_true rfl⟩ (As := [.int (gI M_1 130 v_1.toNatClampNeg), .int (v_2 - 16)]) (rest := []) rfl hl.1 rfl (Nat.le_of_ble_eq_true rfl) dX9_goStep_141 ⟨Nat.zero_le _, Nat.zero_le _⟩) hS (fun H locs hP hS => ?_)
        exact r_vret X hP hS (pr0 h) dX9_goStep_144
      · replace h := if_elp h hc
        refine lv_aload_n hx hb dX9_goStep_95 rfl (lv_at hl 2 rfl) ?_
        refine lv_bipush (v := 9) hx hb dX9_goStep_96 (by decide) ?_
        obtain ⟨M_2, e_4, h⟩ := lt_el h
        refine pf_X9_278 X hP hS e_4 dX9_goStep_98 (fun H locs hP hS => ?_)
        refine lv_iload_n hx hb dX9_goStep_101 rfl (lv_at hl 0 rfl) ?_
        refine lv_bipush (v := 17) hx hb dX9_goStep_102 (by decide) ?_
        refine lv_icmp_ne (tgt := 129) hx hb dX9_goStep_104 (by decide) (fun hc => ?_) (fun hc => ?_)
        · replace h := if_eln h hc
          exact r_vret X hP hS (pr0 h) dX9_goStep_129
        · replace h := if_elp h hc
          refine lv_aload_n hx hb dX9_goStep_107 rfl (lv_at hl 2 rfl) ?_
          refine lv_iconst (v := 0) hx hb dX9_goStep_108 (by decide) ?_
          obtain ⟨M_3, e_5, h⟩ := lt_el h
          refine pf_X9_278 X hP hS e_5 dX9_goStep_109 (fun H locs hP hS => ?_)
          refine lv_aload_n hx hb dX9_goStep_112 rfl (lv_at hl 2 rfl) ?_
          refine lv_ldc2 (v := (-10)) hx hb hown (hts _ k_787) dX9_goStep_113 ?_
          obtain ⟨M_4, e_6, h⟩ := lt_el h
          refine pf_X9_287 X hP hS e_6 dX9_goStep_116 (fun H locs hP hS => ?_)
          refine lv_aload_n hx hb dX9_goStep_119 rfl (lv_at hl 2 rfl) ?_
          refine gf_X9_190 X hP dX9_goStep_120 ?_
          refine lv_iload_n hx hb dX9_goStep_123 rfl (lv_at hl 3 rfl) ?_
          refine lv_dup2_11 hx hb dX9_goStep_124 rfl rfl ?_
          obtain ⟨g_6, h⟩ := gd_el h
          refine r_iald X hP kq_178 g_6 dX9_goStep_125 ?_
          refine lv_iconst (v := 1) hx hb dX9_goStep_126 (by decide) ?_
          refine lv_iadd hx hb dX9_goStep_127 ?_
          obtain ⟨g_7, h⟩ := gd_el h
          obtain ⟨M_5, e_7, h⟩ := lt_el h
          refine r_iast X hP hS kq_178 g_7 e_7 dX9_goStep_128 (fun H locs hP hS => ?_)
          exact r_vret X hP hS (pr0 h) dX9_goStep_129
    · replace h := if_elp h hc
      exact w_X9_goStep_46 X hP hS (lv_sub hl [2, 3, 1, 0] rfl) h
end METHS

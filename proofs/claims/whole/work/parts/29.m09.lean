section METHS
variable {p : Program} {l : Launch} {e : Env} {s : State} {m : MethodId} {args : Array Value} {below : List Frame} {meth : Method} {c : Code} {H : Heap} {locs : List Loc} {G : va_G} {cy : Nat → ClassId} {B nT : Nat} {ls : Array Slot}
abbrev rmX9_gramsOf : Room := { frames := 1, cells := 0, slots := 0, locals := 22 }
def f_X9_gramsOf_64 (K11 : Mem → Int32 → Int32 → Int64 → Int32 → Option (Int64 × Mem)) (M : Mem) (v2 : Int32) (v3 : Int32) (v6 : Int32) (s0 : Int64) (s1 : Int64) : Option (Int64 × Mem) :=
  lt (s1 + s0) fun v_1 => lt (v6 + 1) fun v_2 => K11 M v2 v3 v_1 v_2
set_option maxRecDepth 100000 in
set_option maxHeartbeats 4000000 in
theorem w_X9_gramsOf_64 (X : Cx p s m args meth c cX9_gramsOf RX9 7 (some .long) G cy) {out : Int64 × Mem} {K11 : Mem → Int32 → Int32 → Int64 → Int32 → Option (Int64 × Mem)} (hK11 : ∀ (H : Heap) (locs : List Loc) (ls : Array Slot) (M : Mem) (v2 : Int32) (v3 : Int32) (v4 : Int64) (v6 : Int32), Pic G B cy nT M H → va_S (FB B) s.heap H locs → lv_has ls 7 [(0, .ref (B + 119)), (2, .int v2), (3, .int v3), (4, .long v4), (6, .int v6)] → K11 M v2 v3 v4 v6 = some out → W p l e rmX9_gramsOf s m args below meth c H locs 0 0 (MQ below (Ql G B cy nT out.1 out.2) args s 0 0 (FB B)) (F0 m 11 ls [])) {M : Mem} {v2 : Int32} {v3 : Int32} {v6 : Int32} {s0 : Int64} {s1 : Int64} (hP : Pic G B cy nT M H) (hS : va_S (FB B) s.heap H locs) (hl : lv_has ls 7 [(0, .ref (B + 119)), (2, .int v2), (3, .int v3), (6, .int v6)]) (h : f_X9_gramsOf_64 K11 M v2 v3 v6 s0 s1 = some out) : W p l e rmX9_gramsOf s m args below meth c H locs 0 0 (MQ below (Ql G B cy nT out.1 out.2) args s 0 0 (FB B)) (F0 m 64 ls [.long s0, .long s1]) := by
  obtain ⟨hx, hb, hr, hml, hown, hts, hKn, hlk⟩ := id X
  unfold f_X9_gramsOf_64 at h
  refine lv_ladd hx hb dX9_gramsOf_64 ?_
  obtain ⟨v_1, e_1, h⟩ := lt_el h
  refine r_topl e_1 ?_
  refine lv_lstore (lv' := [(4, .long v_1), (0, .ref (B + 119)), (2, .int v2), (3, .int v3), (6, .int v6)]) hx hb dX9_gramsOf_65 hl (by decide) rfl (fun ls hl => ?_)
  obtain ⟨v_2, e_2, h⟩ := lt_el h
  refine lv_iinc (v := v_2) (lv' := [(6, .int v_2), (4, .long v_1), (0, .ref (B + 119)), (2, .int v2), (3, .int v3)]) hx hb dX9_gramsOf_67 hl (k := 4) rfl (by rw [e_2]; rfl) (by decide) rfl (fun ls hl => ?_)
  refine lv_goto (tgt := 11) hx hb dX9_gramsOf_70 (by decide) ?_
  exact hK11 _ _ _ _ _ _ _ _ hP hS (lv_sub hl [2, 3, 4, 1, 0] rfl) h
def f_X9_gramsOf_63 (K11 : Mem → Int32 → Int32 → Int64 → Int32 → Option (Int64 × Mem)) (M : Mem) (v2 : Int32) (v3 : Int32) (v6 : Int32) (s0 : Int64) : Option (Int64 × Mem) :=
  f_X9_gramsOf_64 K11 M v2 v3 v6 0 s0
set_option maxRecDepth 100000 in
set_option maxHeartbeats 4000000 in
theorem w_X9_gramsOf_63 (X : Cx p s m args meth c cX9_gramsOf RX9 7 (some .long) G cy) {out : Int64 × Mem} {K11 : Mem → Int32 → Int32 → Int64 → Int32 → Option (Int64 × Mem)} (hK11 : ∀ (H : Heap) (locs : List Loc) (ls : Array Slot) (M : Mem) (v2 : Int32) (v3 : Int32) (v4 : Int64) (v6 : Int32), Pic G B cy nT M H → va_S (FB B) s.heap H locs → lv_has ls 7 [(0, .ref (B + 119)), (2, .int v2), (3, .int v3), (4, .long v4), (6, .int v6)] → K11 M v2 v3 v4 v6 = some out → W p l e rmX9_gramsOf s m args below meth c H locs 0 0 (MQ below (Ql G B cy nT out.1 out.2) args s 0 0 (FB B)) (F0 m 11 ls [])) {M : Mem} {v2 : Int32} {v3 : Int32} {v6 : Int32} {s0 : Int64} (hP : Pic G B cy nT M H) (hS : va_S (FB B) s.heap H locs) (hl : lv_has ls 7 [(0, .ref (B + 119)), (2, .int v2), (3, .int v3), (6, .int v6)]) (h : f_X9_gramsOf_63 K11 M v2 v3 v6 s0 = some out) : W p l e rmX9_gramsOf s m args below meth c H locs 0 0 (MQ below (Ql G B cy nT out.1 out.2) args s 0 0 (FB B)) (F0 m 63 ls [.long s0]) := by
  obtain ⟨hx, hb, hr, hml, hown, hts, hKn, hlk⟩ := id X
  unfold f_X9_gramsOf_63 at h
  refine lv_lconst (v := 0) hx hb dX9_gramsOf_63 rfl ?_
  exact w_X9_gramsOf_64 X hK11 hP hS (lv_sub hl [0, 1, 2, 3] rfl) h
def f_X9_gramsOf_50 (K11 : Mem → Int32 → Int32 → Int64 → Int32 → Option (Int64 × Mem)) (M : Mem) (v2 : Int32) (v3 : Int32) (v6 : Int32) (s0 : Int32) (s1 : Int64) : Option (Int64 × Mem) :=
  if s0 = v3 then (Option.bind (f_X9_numberNow M v6) fun r_1 => f_X9_gramsOf_64 K11 M v2 v3 v6 r_1 s1) else (f_X9_gramsOf_63 K11 M v2 v3 v6 s1)
set_option maxRecDepth 100000 in
set_option maxHeartbeats 4000000 in
theorem w_X9_gramsOf_50 (X : Cx p s m args meth c cX9_gramsOf RX9 7 (some .long) G cy) {out : Int64 × Mem} {K11 : Mem → Int32 → Int32 → Int64 → Int32 → Option (Int64 × Mem)} (hK11 : ∀ (H : Heap) (locs : List Loc) (ls : Array Slot) (M : Mem) (v2 : Int32) (v3 : Int32) (v4 : Int64) (v6 : Int32), Pic G B cy nT M H → va_S (FB B) s.heap H locs → lv_has ls 7 [(0, .ref (B + 119)), (2, .int v2), (3, .int v3), (4, .long v4), (6, .int v6)] → K11 M v2 v3 v4 v6 = some out → W p l e rmX9_gramsOf s m args below meth c H locs 0 0 (MQ below (Ql G B cy nT out.1 out.2) args s 0 0 (FB B)) (F0 m 11 ls [])) {M : Mem} {v2 : Int32} {v3 : Int32} {v6 : Int32} {s0 : Int32} {s1 : Int64} (hP : Pic G B cy nT M H) (hS : va_S (FB B) s.heap H locs) (hl : lv_has ls 7 [(0, .ref (B + 119)), (2, .int v2), (3, .int v3), (6, .int v6)]) (h : f_X9_gramsOf_50 K11 M v2 v3 v6 s0 s1 = some out) : W p l e rmX9_gramsOf s m args below meth c H locs 0 0 (MQ below (Ql G B cy nT out.1 out.2) args s 0 0 (FB B)) (F0 m 50 ls [.int s0, .long s1]) := by
  obtain ⟨hx, hb, hr, hml, hown, hts, hKn, hlk⟩ := id X
  unfold f_X9_gramsOf_50 at h
  refine lv_iload_n hx hb dX9_gramsOf_50 rfl (lv_at hl 2 rfl) ?_
  refine lv_icmp_ne (tgt := 63) hx hb dX9_gramsOf_51 (by decide) (fun hc => ?_) (fun hc => ?_)
  · replace h := if_eln h hc
    exact w_X9_gramsOf_63 X hK11 hP hS (lv_sub hl [0, 1, 2, 3] rfl) h
  · replace h := if_elp h hc
    refine lv_aload_n hx hb dX9_gramsOf_54 rfl (lv_at hl 0 rfl) ?_
    refine lv_iload hx hb dX9_gramsOf_55 (lv_at hl 3 rfl) ?_
    obtain ⟨r_1, h_1, h⟩ := bd_el h
    refine cl_l (rn_V (C := RX9) (ci := 9) X hP (c_X9_numberNow h_1) kq_119 rfl k_754 k_755 k_917 k_9 k_756 rfl hd_X9_numberNow (n := 1) ⟨⟨rfl, rfl⟩, Nat.le_of_ble_eq_true rfl, Nat.le_of_ble_eq_true rfl⟩ (As := [.int v6]) (rest := [.long s1]) rfl hl.1 rfl (Nat.le_of_ble_eq_true rfl) dX9_gramsOf_57 ⟨Nat.zero_le _, Nat.zero_le _⟩) hS (fun H locs hP hS => ?_)
    refine lv_goto (tgt := 64) hx hb dX9_gramsOf_60 (by decide) ?_
    exact w_X9_gramsOf_64 X hK11 hP hS (lv_sub hl [0, 1, 2, 3] rfl) h
def f_X9_gramsOf_11 : Nat → Mem → Int32 → Int32 → Int64 → Int32 → Option (Int64 × Mem)
  | 0, _, _, _, _, _ => none
  | n + 1, M, v2, v3, v4, v6 => if 40 ≤ v6 then (some (v4, M)) else (Option.bind (f_X9_holdsNow M v6) fun r_1 => if r_1 = 2 then (if v2 = 2 then (Option.bind (f_X9_kindNow M v6) fun r_3 => f_X9_gramsOf_50 (f_X9_gramsOf_11 n) M v2 v3 v6 r_3 v4) else (Option.bind (f_X9_growerNow M v6) fun r_2 => f_X9_gramsOf_50 (f_X9_gramsOf_11 n) M v2 v3 v6 r_2 v4)) else (f_X9_gramsOf_63 (f_X9_gramsOf_11 n) M v2 v3 v6 v4))
set_option maxRecDepth 100000 in
set_option maxHeartbeats 4000000 in
theorem w_X9_gramsOf_11 (X : Cx p s m args meth c cX9_gramsOf RX9 7 (some .long) G cy) {out : Int64 × Mem} : ∀ n : Nat, ∀ (H : Heap) (locs : List Loc) (ls : Array Slot) (M : Mem) (v2 : Int32) (v3 : Int32) (v4 : Int64) (v6 : Int32), Pic G B cy nT M H → va_S (FB B) s.heap H locs → lv_has ls 7 [(0, .ref (B + 119)), (2, .int v2), (3, .int v3), (4, .long v4), (6, .int v6)] → f_X9_gramsOf_11 n M v2 v3 v4 v6 = some out → W p l e rmX9_gramsOf s m args below meth c H locs 0 0 (MQ below (Ql G B cy nT out.1 out.2) args s 0 0 (FB B)) (F0 m 11 ls []) := by
  obtain ⟨hx, hb, hr, hml, hown, hts, hKn, hlk⟩ := id X
  intro n
  induction n with
  | zero =>
    intro H locs ls M v2 v3 v4 v6 hP hS hl h
    cases h
  | succ n ih =>
    intro H locs ls M v2 v3 v4 v6 hP hS hl h
    rw [f_X9_gramsOf_11] at h
    refine lv_iload hx hb dX9_gramsOf_11 (lv_at hl 4 rfl) ?_
    refine lv_bipush (v := 40) hx hb dX9_gramsOf_13 (by decide) ?_
    refine lv_icmp_ge (tgt := 73) hx hb dX9_gramsOf_15 (by decide) (fun hc => ?_) (fun hc => ?_)
    · replace h := if_elp h hc
      refine lv_lload hx hb dX9_gramsOf_73 (lv_at hl 3 rfl) ?_
      exact r_lret X hP hS (pr1 h) (pr2 h) dX9_gramsOf_75
    · replace h := if_eln h hc
      refine lv_lload hx hb dX9_gramsOf_18 (lv_at hl 3 rfl) ?_
      refine lv_aload_n hx hb dX9_gramsOf_20 rfl (lv_at hl 0 rfl) ?_
      refine lv_iload hx hb dX9_gramsOf_21 (lv_at hl 4 rfl) ?_
      obtain ⟨r_1, h_1, h⟩ := bd_el h
      refine cl_i (rn_V (C := RX9) (ci := 9) X hP (c_X9_holdsNow h_1) kq_119 rfl k_751 k_752 k_916 k_9 k_753 rfl hd_X9_holdsNow (n := 1) ⟨⟨rfl, rfl⟩, Nat.le_of_ble_eq_true rfl, Nat.le_of_ble_eq_true rfl⟩ (As := [.int v6]) (rest := [.long v4]) rfl hl.1 rfl (Nat.le_of_ble_eq_true rfl) dX9_gramsOf_23 ⟨Nat.zero_le _, Nat.zero_le _⟩) hS (fun H locs hP hS => ?_)
      refine lv_iconst (v := 2) hx hb dX9_gramsOf_26 (by decide) ?_
      refine lv_icmp_ne (tgt := 63) hx hb dX9_gramsOf_27 (by decide) (fun hc => ?_) (fun hc => ?_)
      · replace h := if_eln h hc
        exact w_X9_gramsOf_63 X ih hP hS (lv_sub hl [0, 1, 2, 4] rfl) h
      · replace h := if_elp h hc
        refine lv_iload_n hx hb dX9_gramsOf_30 rfl (lv_at hl 1 rfl) ?_
        refine lv_iconst (v := 2) hx hb dX9_gramsOf_31 (by decide) ?_
        refine lv_icmp_ne (tgt := 44) hx hb dX9_gramsOf_32 (by decide) (fun hc => ?_) (fun hc => ?_)
        · replace h := if_eln h hc
          refine lv_aload_n hx hb dX9_gramsOf_44 rfl (lv_at hl 0 rfl) ?_
          refine lv_iload hx hb dX9_gramsOf_45 (lv_at hl 4 rfl) ?_
          obtain ⟨r_2, h_2, h⟩ := bd_el h
          refine cl_i (rn_V (C := RX9) (ci := 9) X hP (c_X9_growerNow h_2) kq_119 rfl k_781 k_782 k_923 k_9 k_783 rfl hd_X9_growerNow (n := 1) ⟨⟨rfl, rfl⟩, Nat.le_of_ble_eq_true rfl, Nat.le_of_ble_eq_true rfl⟩ (As := [.int v6]) (rest := [.long v4]) rfl hl.1 rfl (Nat.le_of_ble_eq_true rfl) dX9_gramsOf_47 ⟨Nat.zero_le _, Nat.zero_le _⟩) hS (fun H locs hP hS => ?_)
          exact w_X9_gramsOf_50 X ih hP hS (lv_sub hl [0, 1, 2, 4] rfl) h
        · replace h := if_elp h hc
          refine lv_aload_n hx hb dX9_gramsOf_35 rfl (lv_at hl 0 rfl) ?_
          refine lv_iload hx hb dX9_gramsOf_36 (lv_at hl 4 rfl) ?_
          obtain ⟨r_3, h_3, h⟩ := bd_el h
          refine cl_i (rn_V (C := RX9) (ci := 9) X hP (c_X9_kindNow h_3) kq_119 rfl k_778 k_779 k_922 k_9 k_780 rfl hd_X9_kindNow (n := 1) ⟨⟨rfl, rfl⟩, Nat.le_of_ble_eq_true rfl, Nat.le_of_ble_eq_true rfl⟩ (As := [.int v6]) (rest := [.long v4]) rfl hl.1 rfl (Nat.le_of_ble_eq_true rfl) dX9_gramsOf_38 ⟨Nat.zero_le _, Nat.zero_le _⟩) hS (fun H locs hP hS => ?_)
          refine lv_goto (tgt := 50) hx hb dX9_gramsOf_41 (by decide) ?_
          exact w_X9_gramsOf_50 X ih hP hS (lv_sub hl [0, 1, 2, 4] rfl) h
def f_X9_gramsOf (M : Mem) (a1 : Int32) (a2 : Int32) (a3 : Int32) : Option (Int64 × Mem) :=
  lt (sI M 119 46 a1) fun M_1 => f_X9_gramsOf_11 FU M_1 a2 a3 0 0
set_option maxRecDepth 100000 in
set_option maxHeartbeats 4000000 in
theorem c_X9_gramsOf {l : Launch} {G : va_G} {cy : Nat → ClassId} {B nT : Nat} {M : Mem} {a1 : Int32} {a2 : Int32} {a3 : Int32} {out : Int64 × Mem} (h : f_X9_gramsOf M a1 a2 a3 = some out) : Met l yX9_gramsOf (wsU yX9_gramsOf cX9_gramsOf 7 (some .long)) rmX9_gramsOf (va_Pc [.ref (B + 119), .int a1, .int a2, .int a3] (PU G B cy nT M)) (Ql G B cy nT out.1 out.2) 0 0 (FB B) := by
  refine r_met (by decide +kernel) RX9 rfl (Nat.le_of_ble_eq_true rfl) ?_
  intro p e s m args below meth c ls X hP hl
  have hl : lv_has ls 7 [(0, .ref (B + 119)), (1, .int a1), (2, .int a2), (3, .int a3)] := hl
  have hS : va_S (FB B) s.heap s.heap [] := va_S.rf
  obtain ⟨hx, hb, hr, hml, hown, hts, hKn, hlk⟩ := id X
  unfold f_X9_gramsOf at h
  refine lv_aload_n hx hb dX9_gramsOf_0 rfl (lv_at hl 0 rfl) ?_
  refine lv_iload_n hx hb dX9_gramsOf_1 rfl (lv_at hl 1 rfl) ?_
  obtain ⟨M_1, e_1, h⟩ := lt_el h
  refine pf_X9_267 X hP hS e_1 dX9_gramsOf_2 (fun H locs hP hS => ?_)
  refine lv_lconst (v := 0) hx hb dX9_gramsOf_5 rfl ?_
  refine lv_lstore (lv' := [(4, .long 0), (0, .ref (B + 119)), (1, .int a1), (2, .int a2), (3, .int a3)]) hx hb dX9_gramsOf_6 hl (by decide) rfl (fun ls hl => ?_)
  refine lv_iconst (v := 0) hx hb dX9_gramsOf_8 (by decide) ?_
  refine lv_istore (lv' := [(6, .int 0), (4, .long 0), (0, .ref (B + 119)), (1, .int a1), (2, .int a2), (3, .int a3)]) hx hb dX9_gramsOf_9 hl (by decide) rfl (fun ls hl => ?_)
  exact w_X9_gramsOf_11 X FU _ _ _ _ _ _ _ _ hP hS (lv_sub hl [2, 4, 5, 1, 0] rfl) h
abbrev rmX9_breaks : Room := { frames := 2, cells := 0, slots := 0, locals := 48 }
def f_X9_breaks_156 (K7 : Mem → Int32 → Int32 → Option (Int32 × Mem)) (M : Mem) (v1 : Int32) (v2 : Int32) (v5 : Int32) : Option (Int32 × Mem) :=
  if v5 = 0 then (some (v2, M)) else (lt (v2 + 1) fun v_1 => K7 M v1 v_1)
set_option maxRecDepth 100000 in
set_option maxHeartbeats 4000000 in
theorem w_X9_breaks_156 (X : Cx p s m args meth c cX9_breaks RX9 6 (some .int) G cy) {out : Int32 × Mem} {K7 : Mem → Int32 → Int32 → Option (Int32 × Mem)} (hK7 : ∀ (H : Heap) (locs : List Loc) (ls : Array Slot) (M : Mem) (v1 : Int32) (v2 : Int32), Pic G B cy nT M H → va_S (FB B) s.heap H locs → lv_has ls 6 [(0, .ref (B + 119)), (1, .int v1), (2, .int v2)] → K7 M v1 v2 = some out → W p l e rmX9_breaks s m args below meth c H locs 0 0 (MQ below (Qi G B cy nT out.1 out.2) args s 0 0 (FB B)) (F0 m 7 ls [])) {M : Mem} {v1 : Int32} {v2 : Int32} {v5 : Int32} (hP : Pic G B cy nT M H) (hS : va_S (FB B) s.heap H locs) (hl : lv_has ls 6 [(0, .ref (B + 119)), (1, .int v1), (2, .int v2), (5, .int v5)]) (h : f_X9_breaks_156 K7 M v1 v2 v5 = some out) : W p l e rmX9_breaks s m args below meth c H locs 0 0 (MQ below (Qi G B cy nT out.1 out.2) args s 0 0 (FB B)) (F0 m 156 ls []) := by
  obtain ⟨hx, hb, hr, hml, hown, hts, hKn, hlk⟩ := id X
  unfold f_X9_breaks_156 at h
  refine lv_iload hx hb dX9_breaks_156 (lv_at hl 3 rfl) ?_
  refine lv_if_ne (tgt := 163) hx hb dX9_breaks_158 (by decide) (fun hc => ?_) (fun hc => ?_)
  · replace h := if_eln h hc
    obtain ⟨v_1, e_1, h⟩ := lt_el h
    refine lv_iinc (v := v_1) (lv' := [(2, .int v_1), (0, .ref (B + 119)), (1, .int v1), (5, .int v5)]) hx hb dX9_breaks_163 hl (k := 2) rfl (by rw [e_1]; rfl) (by decide) rfl (fun ls hl => ?_)
    refine lv_goto (tgt := 7) hx hb dX9_breaks_166 (by decide) ?_
    exact hK7 _ _ _ _ _ _ hP hS (lv_sub hl [1, 2, 0] rfl) h
  · replace h := if_elp h hc
    refine lv_iload_n hx hb dX9_breaks_161 rfl (lv_at hl 2 rfl) ?_
    exact r_iret X hP hS (pr1 h) (pr2 h) dX9_breaks_162
def f_X9_breaks_154 (K7 : Mem → Int32 → Int32 → Option (Int32 × Mem)) (M : Mem) (v1 : Int32) (v2 : Int32) (s0 : Int32) : Option (Int32 × Mem) :=
  f_X9_breaks_156 K7 M v1 v2 s0
set_option maxRecDepth 100000 in
set_option maxHeartbeats 4000000 in
theorem w_X9_breaks_154 (X : Cx p s m args meth c cX9_breaks RX9 6 (some .int) G cy) {out : Int32 × Mem} {K7 : Mem → Int32 → Int32 → Option (Int32 × Mem)} (hK7 : ∀ (H : Heap) (locs : List Loc) (ls : Array Slot) (M : Mem) (v1 : Int32) (v2 : Int32), Pic G B cy nT M H → va_S (FB B) s.heap H locs → lv_has ls 6 [(0, .ref (B + 119)), (1, .int v1), (2, .int v2)] → K7 M v1 v2 = some out → W p l e rmX9_breaks s m args below meth c H locs 0 0 (MQ below (Qi G B cy nT out.1 out.2) args s 0 0 (FB B)) (F0 m 7 ls [])) {M : Mem} {v1 : Int32} {v2 : Int32} {s0 : Int32} (hP : Pic G B cy nT M H) (hS : va_S (FB B) s.heap H locs) (hl : lv_has ls 6 [(0, .ref (B + 119)), (1, .int v1), (2, .int v2)]) (h : f_X9_breaks_154 K7 M v1 v2 s0 = some out) : W p l e rmX9_breaks s m args below meth c H locs 0 0 (MQ below (Qi G B cy nT out.1 out.2) args s 0 0 (FB B)) (F0 m 154 ls [.int s0]) := by
  obtain ⟨hx, hb, hr, hml, hown, hts, hKn, hlk⟩ := id X
  unfold f_X9_breaks_154 at h
  refine lv_istore (lv' := [(5, .int s0), (0, .ref (B + 119)), (1, .int v1), (2, .int v2)]) hx hb dX9_breaks_154 hl (by decide) rfl (fun ls hl => ?_)
  exact w_X9_breaks_156 X hK7 hP hS (lv_sub hl [1, 2, 3, 0] rfl) h
def f_X9_breaks_122 (K7 : Mem → Int32 → Int32 → Option (Int32 × Mem)) (M : Mem) (v1 : Int32) (v2 : Int32) (s0 : Int32) : Option (Int32 × Mem) :=
  f_X9_breaks_156 K7 M v1 v2 s0
set_option maxRecDepth 100000 in
set_option maxHeartbeats 4000000 in
theorem w_X9_breaks_122 (X : Cx p s m args meth c cX9_breaks RX9 6 (some .int) G cy) {out : Int32 × Mem} {K7 : Mem → Int32 → Int32 → Option (Int32 × Mem)} (hK7 : ∀ (H : Heap) (locs : List Loc) (ls : Array Slot) (M : Mem) (v1 : Int32) (v2 : Int32), Pic G B cy nT M H → va_S (FB B) s.heap H locs → lv_has ls 6 [(0, .ref (B + 119)), (1, .int v1), (2, .int v2)] → K7 M v1 v2 = some out → W p l e rmX9_breaks s m args below meth c H locs 0 0 (MQ below (Qi G B cy nT out.1 out.2) args s 0 0 (FB B)) (F0 m 7 ls [])) {M : Mem} {v1 : Int32} {v2 : Int32} {s0 : Int32} (hP : Pic G B cy nT M H) (hS : va_S (FB B) s.heap H locs) (hl : lv_has ls 6 [(0, .ref (B + 119)), (1, .int v1), (2, .int v2)]) (h : f_X9_breaks_122 K7 M v1 v2 s0 = some out) : W p l e rmX9_breaks s m args below meth c H locs 0 0 (MQ below (Qi G B cy nT out.1 out.2) args s 0 0 (FB B)) (F0 m 122 ls [.int s0]) := by
  obtain ⟨hx, hb, hr, hml, hown, hts, hKn, hlk⟩ := id X
  unfold f_X9_breaks_122 at h
  refine lv_istore (lv' := [(5, .int s0), (0, .ref (B + 119)), (1, .int v1), (2, .int v2)]) hx hb dX9_breaks_122 hl (by decide) rfl (fun ls hl => ?_)
  refine lv_goto (tgt := 156) hx hb dX9_breaks_124 (by decide) ?_
  exact w_X9_breaks_156 X hK7 hP hS (lv_sub hl [1, 2, 3, 0] rfl) h
def f_X9_breaks_117 (K7 : Mem → Int32 → Int32 → Option (Int32 × Mem)) (M : Mem) (v1 : Int32) (v2 : Int32) : Option (Int32 × Mem) :=
  f_X9_breaks_122 K7 M v1 v2 1
set_option maxRecDepth 100000 in
set_option maxHeartbeats 4000000 in
theorem w_X9_breaks_117 (X : Cx p s m args meth c cX9_breaks RX9 6 (some .int) G cy) {out : Int32 × Mem} {K7 : Mem → Int32 → Int32 → Option (Int32 × Mem)} (hK7 : ∀ (H : Heap) (locs : List Loc) (ls : Array Slot) (M : Mem) (v1 : Int32) (v2 : Int32), Pic G B cy nT M H → va_S (FB B) s.heap H locs → lv_has ls 6 [(0, .ref (B + 119)), (1, .int v1), (2, .int v2)] → K7 M v1 v2 = some out → W p l e rmX9_breaks s m args below meth c H locs 0 0 (MQ below (Qi G B cy nT out.1 out.2) args s 0 0 (FB B)) (F0 m 7 ls [])) {M : Mem} {v1 : Int32} {v2 : Int32} (hP : Pic G B cy nT M H) (hS : va_S (FB B) s.heap H locs) (hl : lv_has ls 6 [(0, .ref (B + 119)), (1, .int v1), (2, .int v2)]) (h : f_X9_breaks_117 K7 M v1 v2 = some out) : W p l e rmX9_breaks s m args below meth c H locs 0 0 (MQ below (Qi G B cy nT out.1 out.2) args s 0 0 (FB B)) (F0 m 117 ls []) := by
  obtain ⟨hx, hb, hr, hml, hown, hts, hKn, hlk⟩ := id X
  unfold f_X9_breaks_117 at h
  refine lv_iconst (v := 1) hx hb dX9_breaks_117 (by decide) ?_
  refine lv_goto (tgt := 122) hx hb dX9_breaks_118 (by decide) ?_
  exact w_X9_breaks_122 X hK7 hP hS (lv_sub hl [0, 1, 2] rfl) h
def f_X9_breaks_68 (K7 : Mem → Int32 → Int32 → Option (Int32 × Mem)) (M : Mem) (v1 : Int32) (v2 : Int32) (s0 : Int32) : Option (Int32 × Mem) :=
  f_X9_breaks_156 K7 M v1 v2 s0
set_option maxRecDepth 100000 in
set_option maxHeartbeats 4000000 in
theorem w_X9_breaks_68 (X : Cx p s m args meth c cX9_breaks RX9 6 (some .int) G cy) {out : Int32 × Mem} {K7 : Mem → Int32 → Int32 → Option (Int32 × Mem)} (hK7 : ∀ (H : Heap) (locs : List Loc) (ls : Array Slot) (M : Mem) (v1 : Int32) (v2 : Int32), Pic G B cy nT M H → va_S (FB B) s.heap H locs → lv_has ls 6 [(0, .ref (B + 119)), (1, .int v1), (2, .int v2)] → K7 M v1 v2 = some out → W p l e rmX9_breaks s m args below meth c H locs 0 0 (MQ below (Qi G B cy nT out.1 out.2) args s 0 0 (FB B)) (F0 m 7 ls [])) {M : Mem} {v1 : Int32} {v2 : Int32} {s0 : Int32} (hP : Pic G B cy nT M H) (hS : va_S (FB B) s.heap H locs) (hl : lv_has ls 6 [(0, .ref (B + 119)), (1, .int v1), (2, .int v2)]) (h : f_X9_breaks_68 K7 M v1 v2 s0 = some out) : W p l e rmX9_breaks s m args below meth c H locs 0 0 (MQ below (Qi G B cy nT out.1 out.2) args s 0 0 (FB B)) (F0 m 68 ls [.int s0]) := by
  obtain ⟨hx, hb, hr, hml, hown, hts, hKn, hlk⟩ := id X
  unfold f_X9_breaks_68 at h
  refine lv_istore (lv' := [(5, .int s0), (0, .ref (B + 119)), (1, .int v1), (2, .int v2)]) hx hb dX9_breaks_68 hl (by decide) rfl (fun ls hl => ?_)
  refine lv_goto (tgt := 156) hx hb dX9_breaks_70 (by decide) ?_
  exact w_X9_breaks_156 X hK7 hP hS (lv_sub hl [1, 2, 3, 0] rfl) h
def f_X9_breaks_63 (K7 : Mem → Int32 → Int32 → Option (Int32 × Mem)) (M : Mem) (v1 : Int32) (v2 : Int32) : Option (Int32 × Mem) :=
  f_X9_breaks_68 K7 M v1 v2 1
set_option maxRecDepth 100000 in
set_option maxHeartbeats 4000000 in
theorem w_X9_breaks_63 (X : Cx p s m args meth c cX9_breaks RX9 6 (some .int) G cy) {out : Int32 × Mem} {K7 : Mem → Int32 → Int32 → Option (Int32 × Mem)} (hK7 : ∀ (H : Heap) (locs : List Loc) (ls : Array Slot) (M : Mem) (v1 : Int32) (v2 : Int32), Pic G B cy nT M H → va_S (FB B) s.heap H locs → lv_has ls 6 [(0, .ref (B + 119)), (1, .int v1), (2, .int v2)] → K7 M v1 v2 = some out → W p l e rmX9_breaks s m args below meth c H locs 0 0 (MQ below (Qi G B cy nT out.1 out.2) args s 0 0 (FB B)) (F0 m 7 ls [])) {M : Mem} {v1 : Int32} {v2 : Int32} (hP : Pic G B cy nT M H) (hS : va_S (FB B) s.heap H locs) (hl : lv_has ls 6 [(0, .ref (B + 119)), (1, .int v1), (2, .int v2)]) (h : f_X9_breaks_63 K7 M v1 v2 = some out) : W p l e rmX9_breaks s m args below meth c H locs 0 0 (MQ below (Qi G B cy nT out.1 out.2) args s 0 0 (FB B)) (F0 m 63 ls []) := by
  obtain ⟨hx, hb, hr, hml, hown, hts, hKn, hlk⟩ := id X
  unfold f_X9_breaks_63 at h
  refine lv_iconst (v := 1) hx hb dX9_breaks_63 (by decide) ?_
  refine lv_goto (tgt := 68) hx hb dX9_breaks_64 (by decide) ?_
  exact w_X9_breaks_68 X hK7 hP hS (lv_sub hl [0, 1, 2] rfl) h
def f_X9_breaks_7 : Nat → Mem → Int32 → Int32 → Option (Int32 × Mem)
  | 0, _, _, _ => none
  | n + 1, M, v1, v2 => if (gI M 119 13) ≤ v2 then (some ((-1), M)) else (gd (inR v2 10) <| lt (gI M 134 v2.toNatClampNeg) fun v_1 => gd (inR v2 10) <| lt (gI M 135 v2.toNatClampNeg) fun v_2 => gd (inR v2 10) <| if (gI M 133 v2.toNatClampNeg) = 0 then (Option.bind (f_X9_holdsNow M v_1) fun r_6 => if r_6 = 1 then (Option.bind (f_X9_numberNow M v_1) fun r_7 => gd (inR v2 10) <| if r_7 < (gL M 136 v2.toNatClampNeg) then (f_X9_breaks_68 (f_X9_breaks_7 n) M v1 v2 0) else (f_X9_breaks_63 (f_X9_breaks_7 n) M v1 v2)) else (f_X9_breaks_63 (f_X9_breaks_7 n) M v1 v2)) else (gd (inR v2 10) <| if (gI M 133 v2.toNatClampNeg) = 1 then (Option.bind (f_X9_holdsNow M v_1) fun r_2 => if r_2 = 1 then (Option.bind (f_X9_holdsNow M v_2) fun r_3 => if r_3 = 1 then (Option.bind (f_X9_numberNow M v_1) fun r_4 => Option.bind (f_X9_numberNow M v_2) fun r_5 => if r_5 < r_4 then (f_X9_breaks_122 (f_X9_breaks_7 n) M v1 v2 0) else (f_X9_breaks_117 (f_X9_breaks_7 n) M v1 v2)) else (f_X9_breaks_117 (f_X9_breaks_7 n) M v1 v2)) else (f_X9_breaks_117 (f_X9_breaks_7 n) M v1 v2)) else (gd (inR v2 10) <| Option.bind (f_X9_gramsOf M v1 (gI M 133 v2.toNatClampNeg) v_1) fun r_1 => gd (inR v2 10) <| if r_1.1 < (gL r_1.2 136 v2.toNatClampNeg) then (f_X9_breaks_154 (f_X9_breaks_7 n) r_1.2 v1 v2 0) else (f_X9_breaks_154 (f_X9_breaks_7 n) r_1.2 v1 v2 1))))
set_option maxRecDepth 100000 in
set_option maxHeartbeats 4000000 in
theorem w_X9_breaks_7 (X : Cx p s m args meth c cX9_breaks RX9 6 (some .int) G cy) {out : Int32 × Mem} : ∀ n : Nat, ∀ (H : Heap) (locs : List Loc) (ls : Array Slot) (M : Mem) (v1 : Int32) (v2 : Int32), Pic G B cy nT M H → va_S (FB B) s.heap H locs → lv_has ls 6 [(0, .ref (B + 119)), (1, .int v1), (2, .int v2)] → f_X9_breaks_7 n M v1 v2 = some out → W p l e rmX9_breaks s m args below meth c H locs 0 0 (MQ below (Qi G B cy nT out.1 out.2) args s 0 0 (FB B)) (F0 m 7 ls []) := by
  obtain ⟨hx, hb, hr, hml, hown, hts, hKn, hlk⟩ := id X
  intro n
  induction n with
  | zero =>
    intro H locs ls M v1 v2 hP hS hl h
    cases h
  | succ n ih =>
    intro H locs ls M v1 v2 hP hS hl h
    rw [f_X9_breaks_7] at h
    refine lv_iload_n hx hb dX9_breaks_7 rfl (lv_at hl 2 rfl) ?_
    refine lv_aload_n hx hb dX9_breaks_8 rfl (lv_at hl 0 rfl) ?_
    refine gf_X9_264 X hP dX9_breaks_9 ?_
    refine lv_icmp_ge (tgt := 169) hx hb dX9_breaks_12 (by decide) (fun hc => ?_) (fun hc => ?_)
    · replace h := if_elp h hc
      refine lv_iconst (v := (-1)) hx hb dX9_breaks_169 (by decide) ?_
      exact r_iret X hP hS (pr1 h) (pr2 h) dX9_breaks_170
    · replace h := if_eln h hc
      refine lv_aload_n hx hb dX9_breaks_15 rfl (lv_at hl 0 rfl) ?_
      refine gf_X9_53 X hP dX9_breaks_16 ?_
      refine lv_iload_n hx hb dX9_breaks_19 rfl (lv_at hl 2 rfl) ?_
      obtain ⟨g_1, h⟩ := gd_el h
      refine r_iald X hP kq_134 g_1 dX9_breaks_20 ?_
      obtain ⟨v_1, e_1, h⟩ := lt_el h
      refine r_topi e_1 ?_
      refine lv_istore_n (lv' := [(3, .int v_1), (0, .ref (B + 119)), (1, .int v1), (2, .int v2)]) hx hb dX9_breaks_21 rfl hl (by decide) rfl (fun ls hl => ?_)
      refine lv_aload_n hx hb dX9_breaks_22 rfl (lv_at hl 1 rfl) ?_
      refine gf_X9_56 X hP dX9_breaks_23 ?_
      refine lv_iload_n hx hb dX9_breaks_26 rfl (lv_at hl 3 rfl) ?_
      obtain ⟨g_2, h⟩ := gd_el h
      refine r_iald X hP kq_135 g_2 dX9_breaks_27 ?_
      obtain ⟨v_2, e_2, h⟩ := lt_el h
      refine r_topi e_2 ?_
      refine lv_istore (lv' := [(4, .int v_2), (3, .int v_1), (0, .ref (B + 119)), (1, .int v1), (2, .int v2)]) hx hb dX9_breaks_28 hl (by decide) rfl (fun ls hl => ?_)
      refine lv_aload_n hx hb dX9_breaks_30 rfl (lv_at hl 2 rfl) ?_
      refine gf_X9_50 X hP dX9_breaks_31 ?_
      refine lv_iload_n hx hb dX9_breaks_34 rfl (lv_at hl 4 rfl) ?_
      obtain ⟨g_3, h⟩ := gd_el h
      refine r_iald X hP kq_133 g_3 dX9_breaks_35 ?_
      refine lv_if_ne (tgt := 73) hx hb dX9_breaks_36 (by decide) (fun hc => ?_) (fun hc => ?_)
      · replace h := if_eln h hc
        refine lv_aload_n hx hb dX9_breaks_73 rfl (lv_at hl 2 rfl) ?_
        refine gf_X9_50 X hP dX9_breaks_74 ?_
        refine lv_iload_n hx hb dX9_breaks_77 rfl (lv_at hl 4 rfl) ?_
        obtain ⟨g_4, h⟩ := gd_el h
        refine r_iald X hP kq_133 g_4 dX9_breaks_78 ?_
        refine lv_iconst (v := 1) hx hb dX9_breaks_79 (by decide) ?_
        refine lv_icmp_ne (tgt := 127) hx hb dX9_breaks_80 (by decide) (fun hc => ?_) (fun hc => ?_)
        · replace h := if_eln h hc
          refine lv_aload_n hx hb dX9_breaks_127 rfl (lv_at hl 2 rfl) ?_
          refine lv_iload_n hx hb dX9_breaks_128 rfl (lv_at hl 3 rfl) ?_
          refine lv_aload_n hx hb dX9_breaks_129 rfl (lv_at hl 2 rfl) ?_
          refine gf_X9_50 X hP dX9_breaks_130 ?_
          refine lv_iload_n hx hb dX9_breaks_133 rfl (lv_at hl 4 rfl) ?_
          obtain ⟨g_5, h⟩ := gd_el h
          refine r_iald X hP kq_133 g_5 dX9_breaks_134 ?_
          refine lv_iload_n hx hb dX9_breaks_135 rfl (lv_at hl 1 rfl) ?_
          obtain ⟨r_1, h_1, h⟩ := bd_el h
          refine cl_l (rn_V (C := RX9) (ci := 9) X hP (c_X9_gramsOf h_1) kq_119 rfl k_809 k_810 k_932 k_9 k_811 rfl hd_X9_gramsOf (n := 3) ⟨⟨rfl, rfl⟩, Nat.le_of_ble_eq_true rfl, Nat.le_of_ble_eq_true rfl⟩ (As := [.int v1, .int (gI M 133 v2.toNatClampNeg), .int v_1]) (rest := []) rfl hl.1 rfl (Nat.le_of_ble_eq_true rfl) dX9_breaks_136 ⟨Nat.zero_le _, Nat.zero_le _⟩) hS (fun H locs hP hS => ?_)
          refine lv_aload_n hx hb dX9_breaks_139 rfl (lv_at hl 2 rfl) ?_
          refine gf_X9_59 X hP dX9_breaks_140 ?_
          refine lv_iload_n hx hb dX9_breaks_143 rfl (lv_at hl 4 rfl) ?_
          obtain ⟨g_6, h⟩ := gd_el h
          refine r_lald X hP kq_136 g_6 dX9_breaks_144 ?_
          refine W.lcmp hx hb dX9_breaks_145 ?_
          refine lv_if_lt (tgt := 153) hx hb dX9_breaks_146 (by decide) (fun hc => ?_) (fun hc => ?_)
          · replace h := if_elp h (lc_lt.mp hc)
            refine lv_iconst (v := 0) hx hb dX9_breaks_153 (by decide) ?_
            exact w_X9_breaks_154 X ih hP hS (lv_sub hl [2, 3, 4] rfl) h
          · replace h := if_eln h (fun z => hc (lc_lt.mpr z))
            refine lv_iconst (v := 1) hx hb dX9_breaks_149 (by decide) ?_
            refine lv_goto (tgt := 154) hx hb dX9_breaks_150 (by decide) ?_
            exact w_X9_breaks_154 X ih hP hS (lv_sub hl [2, 3, 4] rfl) h
        · replace h := if_elp h hc
          refine lv_aload_n hx hb dX9_breaks_83 rfl (lv_at hl 2 rfl) ?_
          refine lv_iload_n hx hb dX9_breaks_84 rfl (lv_at hl 1 rfl) ?_
          obtain ⟨r_2, h_2, h⟩ := bd_el h
          refine cl_i (rn_V (C := RX9) (ci := 9) X hP (c_X9_holdsNow h_2) kq_119 rfl k_751 k_752 k_916 k_9 k_753 rfl hd_X9_holdsNow (n := 1) ⟨⟨rfl, rfl⟩, Nat.le_of_ble_eq_true rfl, Nat.le_of_ble_eq_true rfl⟩ (As := [.int v_1]) (rest := []) rfl hl.1 rfl (Nat.le_of_ble_eq_true rfl) dX9_breaks_85 ⟨Nat.zero_le _, Nat.zero_le _⟩) hS (fun H locs hP hS => ?_)
          refine lv_iconst (v := 1) hx hb dX9_breaks_88 (by decide) ?_
          refine lv_icmp_ne (tgt := 117) hx hb dX9_breaks_89 (by decide) (fun hc => ?_) (fun hc => ?_)
          · replace h := if_eln h hc
            exact w_X9_breaks_117 X ih hP hS (lv_sub hl [2, 3, 4] rfl) h
          · replace h := if_elp h hc
            refine lv_aload_n hx hb dX9_breaks_92 rfl (lv_at hl 2 rfl) ?_
            refine lv_iload hx hb dX9_breaks_93 (lv_at hl 0 rfl) ?_
            obtain ⟨r_3, h_3, h⟩ := bd_el h
            refine cl_i (rn_V (C := RX9) (ci := 9) X hP (c_X9_holdsNow h_3) kq_119 rfl k_751 k_752 k_916 k_9 k_753 rfl hd_X9_holdsNow (n := 1) ⟨⟨rfl, rfl⟩, Nat.le_of_ble_eq_true rfl, Nat.le_of_ble_eq_true rfl⟩ (As := [.int v_2]) (rest := []) rfl hl.1 rfl (Nat.le_of_ble_eq_true rfl) dX9_breaks_95 ⟨Nat.zero_le _, Nat.zero_le _⟩) hS (fun H locs hP hS => ?_)
            refine lv_iconst (v := 1) hx hb dX9_breaks_98 (by decide) ?_
            refine lv_icmp_ne (tgt := 117) hx hb dX9_breaks_99 (by decide) (fun hc => ?_) (fun hc => ?_)
            · replace h := if_eln h hc
              exact w_X9_breaks_117 X ih hP hS (lv_sub hl [2, 3, 4] rfl) h
            · replace h := if_elp h hc
              refine lv_aload_n hx hb dX9_breaks_102 rfl (lv_at hl 2 rfl) ?_
              refine lv_iload_n hx hb dX9_breaks_103 rfl (lv_at hl 1 rfl) ?_
              obtain ⟨r_4, h_4, h⟩ := bd_el h
              refine cl_l (rn_V (C := RX9) (ci := 9) X hP (c_X9_numberNow h_4) kq_119 rfl k_754 k_755 k_917 k_9 k_756 rfl hd_X9_numberNow (n := 1) ⟨⟨rfl, rfl⟩, Nat.le_of_ble_eq_true rfl, Nat.le_of_ble_eq_true rfl⟩ (As := [.int v_1]) (rest := []) rfl hl.1 rfl (Nat.le_of_ble_eq_true rfl) dX9_breaks_104 ⟨Nat.zero_le _, Nat.zero_le _⟩) hS (fun H locs hP hS => ?_)
              refine lv_aload_n hx hb dX9_breaks_107 rfl (lv_at hl 2 rfl) ?_
              refine lv_iload hx hb dX9_breaks_108 (lv_at hl 0 rfl) ?_
              obtain ⟨r_5, h_5, h⟩ := bd_el h
              refine cl_l (rn_V (C := RX9) (ci := 9) X hP (c_X9_numberNow h_5) kq_119 rfl k_754 k_755 k_917 k_9 k_756 rfl hd_X9_numberNow (n := 1) ⟨⟨rfl, rfl⟩, Nat.le_of_ble_eq_true rfl, Nat.le_of_ble_eq_true rfl⟩ (As := [.int v_2]) (rest := [.long r_4]) rfl hl.1 rfl (Nat.le_of_ble_eq_true rfl) dX9_breaks_110 ⟨Nat.zero_le _, Nat.zero_le _⟩) hS (fun H locs hP hS => ?_)
              refine W.lcmp hx hb dX9_breaks_113 ?_
              refine lv_if_gt (tgt := 121) hx hb dX9_breaks_114 (by decide) (fun hc => ?_) (fun hc => ?_)
              · replace h := if_elp h (lc_gt.mp hc)
                refine lv_iconst (v := 0) hx hb dX9_breaks_121 (by decide) ?_
                exact w_X9_breaks_122 X ih hP hS (lv_sub hl [2, 3, 4] rfl) h
              · replace h := if_eln h (fun z => hc (lc_gt.mpr z))
                exact w_X9_breaks_117 X ih hP hS (lv_sub hl [2, 3, 4] rfl) h
      · replace h := if_elp h hc
        refine lv_aload_n hx hb dX9_breaks_39 rfl (lv_at hl 2 rfl) ?_
        refine lv_iload_n hx hb dX9_breaks_40 rfl (lv_at hl 1 rfl) ?_
        obtain ⟨r_6, h_6, h⟩ := bd_el h
        refine cl_i (rn_V (C := RX9) (ci := 9) X hP (c_X9_holdsNow h_6) kq_119 rfl k_751 k_752 k_916 k_9 k_753 rfl hd_X9_holdsNow (n := 1) ⟨⟨rfl, rfl⟩, Nat.le_of_ble_eq_true rfl, Nat.le_of_ble_eq_true rfl⟩ (As := [.int v_1]) (rest := []) rfl hl.1 rfl (Nat.le_of_ble_eq_true rfl) dX9_breaks_41 ⟨Nat.zero_le _, Nat.zero_le _⟩) hS (fun H locs hP hS => ?_)
        refine lv_iconst (v := 1) hx hb dX9_breaks_44 (by decide) ?_
        refine lv_icmp_ne (tgt := 63) hx hb dX9_breaks_45 (by decide) (fun hc => ?_) (fun hc => ?_)
        · replace h := if_eln h hc
          exact w_X9_breaks_63 X ih hP hS (lv_sub hl [2, 3, 4] rfl) h
        · replace h := if_elp h hc
          refine lv_aload_n hx hb dX9_breaks_48 rfl (lv_at hl 2 rfl) ?_
          refine lv_iload_n hx hb dX9_breaks_49 rfl (lv_at hl 1 rfl) ?_
          obtain ⟨r_7, h_7, h⟩ := bd_el h
          refine cl_l (rn_V (C := RX9) (ci := 9) X hP (c_X9_numberNow h_7) kq_119 rfl k_754 k_755 k_917 k_9 k_756 rfl hd_X9_numberNow (n := 1) ⟨⟨rfl, rfl⟩, Nat.le_of_ble_eq_true rfl, Nat.le_of_ble_eq_true rfl⟩ (As := [.int v_1]) (rest := []) rfl hl.1 rfl (Nat.le_of_ble_eq_true rfl) dX9_breaks_50 ⟨Nat.zero_le _, Nat.zero_le _⟩) hS (fun H locs hP hS => ?_)
          refine lv_aload_n hx hb dX9_breaks_53 rfl (lv_at hl 2 rfl) ?_
          refine gf_X9_59 X hP dX9_breaks_54 ?_
          refine lv_iload_n hx hb dX9_breaks_57 rfl (lv_at hl 4 rfl) ?_
          obtain ⟨g_7, h⟩ := gd_el h
          refine r_lald X hP kq_136 g_7 dX9_breaks_58 ?_
          refine W.lcmp hx hb dX9_breaks_59 ?_
          refine lv_if_lt (tgt := 67) hx hb dX9_breaks_60 (by decide) (fun hc => ?_) (fun hc => ?_)
          · replace h := if_elp h (lc_lt.mp hc)
            refine lv_iconst (v := 0) hx hb dX9_breaks_67 (by decide) ?_
            exact w_X9_breaks_68 X ih hP hS (lv_sub hl [2, 3, 4] rfl) h
          · replace h := if_eln h (fun z => hc (lc_lt.mpr z))
            exact w_X9_breaks_63 X ih hP hS (lv_sub hl [2, 3, 4] rfl) h
def f_X9_breaks (M : Mem) (a1 : Int32) : Option (Int32 × Mem) :=
  lt (sI M 119 46 a1) fun M_1 => f_X9_breaks_7 FU M_1 a1 0
set_option maxRecDepth 100000 in
set_option maxHeartbeats 4000000 in
theorem c_X9_breaks {l : Launch} {G : va_G} {cy : Nat → ClassId} {B nT : Nat} {M : Mem} {a1 : Int32} {out : Int32 × Mem} (h : f_X9_breaks M a1 = some out) : Met l yX9_breaks (wsU yX9_breaks cX9_breaks 6 (some .int)) rmX9_breaks (va_Pc [.ref (B + 119), .int a1] (PU G B cy nT M)) (Qi G B cy nT out.1 out.2) 0 0 (FB B) := by
  refine r_met (by decide +kernel) RX9 rfl (Nat.le_of_ble_eq_true rfl) ?_
  intro p e s m args below meth c ls X hP hl
  have hl : lv_has ls 6 [(0, .ref (B + 119)), (1, .int a1)] := hl
  have hS : va_S (FB B) s.heap s.heap [] := va_S.rf
  obtain ⟨hx, hb, hr, hml, hown, hts, hKn, hlk⟩ := id X
  unfold f_X9_breaks at h
  refine lv_aload_n hx hb dX9_breaks_0 rfl (lv_at hl 0 rfl) ?_
  refine lv_iload_n hx hb dX9_breaks_1 rfl (lv_at hl 1 rfl) ?_
  obtain ⟨M_1, e_1, h⟩ := lt_el h
  refine pf_X9_267 X hP hS e_1 dX9_breaks_2 (fun H locs hP hS => ?_)
  refine lv_iconst (v := 0) hx hb dX9_breaks_5 (by decide) ?_
  refine lv_istore_n (lv' := [(2, .int 0), (0, .ref (B + 119)), (1, .int a1)]) hx hb dX9_breaks_6 rfl hl (by decide) rfl (fun ls hl => ?_)
  exact w_X9_breaks_7 X FU _ _ _ _ _ _ hP hS (lv_sub hl [1, 2, 0] rfl) h
abbrev rmX9_tellsOf : Room := { frames := 0, cells := 0, slots := 0, locals := 0 }
def f_X9_tellsOf_77 (M : Mem) (v2 : Int32) (v3 : Int64) (s0 : Int32) : Option (Int64) :=
  if s0 ≤ 0 then (gd (inR v2 40) <| gd ((gL M 121 v2.toNatClampNeg) != 0) <| some (v3 / (gL M 121 v2.toNatClampNeg))) else (some ((-1) - (Int32.toInt64 s0)))
set_option maxRecDepth 100000 in
set_option maxHeartbeats 4000000 in
theorem w_X9_tellsOf_77 (X : Cx p s m args meth c cX9_tellsOf RX9 6 (some .long) G cy) {M : Mem} {out : Int64} {v2 : Int32} {v3 : Int64} {s0 : Int32} (hP : Pic G B cy nT M H) (hS : va_S (FB B) s.heap H locs) (hl : lv_has ls 6 [(0, .ref (B + 119)), (2, .int v2), (3, .long v3)]) (h : f_X9_tellsOf_77 M v2 v3 s0 = some out) : W p l e rmX9_tellsOf s m args below meth c H locs 0 0 (MQ below (Ql G B cy nT out M) args s 0 0 (FB B)) (F0 m 77 ls [.int s0]) := by
  obtain ⟨hx, hb, hr, hml, hown, hts, hKn, hlk⟩ := id X
  unfold f_X9_tellsOf_77 at h
  refine lv_istore (lv' := [(5, .int s0), (0, .ref (B + 119)), (2, .int v2), (3, .long v3)]) hx hb dX9_tellsOf_77 hl (by decide) rfl (fun ls hl => ?_)
  refine lv_iload hx hb dX9_tellsOf_79 (lv_at hl 0 rfl) ?_
  refine lv_if_le (tgt := 94) hx hb dX9_tellsOf_81 (by decide) (fun hc => ?_) (fun hc => ?_)
  · replace h := if_elp h hc
    refine lv_lload_n hx hb dX9_tellsOf_94 rfl (lv_at hl 3 rfl) ?_
    refine lv_aload_n hx hb dX9_tellsOf_95 rfl (lv_at hl 1 rfl) ?_
    refine gf_X9_13 X hP dX9_tellsOf_96 ?_
    refine lv_iload_n hx hb dX9_tellsOf_99 rfl (lv_at hl 2 rfl) ?_
    obtain ⟨g_1, h⟩ := gd_el h
    refine r_lald X hP kq_121 g_1 dX9_tellsOf_100 ?_
    obtain ⟨g_2, h⟩ := gd_el h
    refine lv_ldiv hx hb dX9_tellsOf_101 (bne_iff_ne.mp g_2) ?_
    exact r_lret X hP hS (pr0 h) rfl dX9_tellsOf_102
  · replace h := if_eln h hc
    refine lv_ldc2 (v := (-1)) hx hb hown (hts _ k_771) dX9_tellsOf_84 ?_
    refine lv_iload hx hb dX9_tellsOf_87 (lv_at hl 0 rfl) ?_
    refine lv_i2l (v := (Int32.toInt64 s0)) hx hb dX9_tellsOf_89 rfl ?_
    refine lv_lsub hx hb dX9_tellsOf_90 ?_
    refine lv_goto (tgt := 102) hx hb dX9_tellsOf_91 (by decide) ?_
    exact r_lret X hP hS (pr0 h) rfl dX9_tellsOf_102
def f_X9_tellsOf_76 (M : Mem) (v2 : Int32) (v3 : Int64) : Option (Int64) :=
  f_X9_tellsOf_77 M v2 v3 0
set_option maxRecDepth 100000 in
set_option maxHeartbeats 4000000 in
theorem w_X9_tellsOf_76 (X : Cx p s m args meth c cX9_tellsOf RX9 6 (some .long) G cy) {M : Mem} {out : Int64} {v2 : Int32} {v3 : Int64} (hP : Pic G B cy nT M H) (hS : va_S (FB B) s.heap H locs) (hl : lv_has ls 6 [(0, .ref (B + 119)), (2, .int v2), (3, .long v3)]) (h : f_X9_tellsOf_76 M v2 v3 = some out) : W p l e rmX9_tellsOf s m args below meth c H locs 0 0 (MQ below (Ql G B cy nT out M) args s 0 0 (FB B)) (F0 m 76 ls []) := by
  obtain ⟨hx, hb, hr, hml, hown, hts, hKn, hlk⟩ := id X
  unfold f_X9_tellsOf_76 at h
  refine lv_iconst (v := 0) hx hb dX9_tellsOf_76 (by decide) ?_
  exact w_X9_tellsOf_77 X hP hS (lv_sub hl [0, 1, 2] rfl) h
def f_X9_tellsOf (M : Mem) (a1 : Int32) (a2 : Int32) (a3 : Int64) : Option (Int64) :=
  if a1 = 0 then (some (a3 + (Int32.toInt64 a2))) else (gd (inR a2 40) <| if (gI M 120 a2.toNatClampNeg) = 0 then (f_X9_tellsOf_77 M a2 a3 1) else (gd (inR a2 40) <| if (gI M 120 a2.toNatClampNeg) = 2 then (f_X9_tellsOf_77 M a2 a3 3) else (gd (inR a2 40) <| if (gL M 121 a2.toNatClampNeg) = 0 then (f_X9_tellsOf_77 M a2 a3 4) else (if a3 = (-9223372036854775808) then (gd (inR a2 40) <| if (gL M 121 a2.toNatClampNeg) = (-1) then (f_X9_tellsOf_77 M a2 a3 5) else (f_X9_tellsOf_76 M a2 a3)) else (f_X9_tellsOf_76 M a2 a3)))))
set_option maxRecDepth 100000 in
set_option maxHeartbeats 4000000 in
theorem c_X9_tellsOf {l : Launch} {G : va_G} {cy : Nat → ClassId} {B nT : Nat} {M : Mem} {a1 : Int32} {a2 : Int32} {a3 : Int64} {out : Int64} (h : f_X9_tellsOf M a1 a2 a3 = some out) : Met l yX9_tellsOf (wsU yX9_tellsOf cX9_tellsOf 6 (some .long)) rmX9_tellsOf (va_Pc [.ref (B + 119), .int a1, .int a2, .long a3] (PU G B cy nT M)) (Ql G B cy nT out M) 0 0 (FB B) := by
  refine r_met (by decide +kernel) RX9 rfl (Nat.le_of_ble_eq_true rfl) ?_
  intro p e s m args below meth c ls X hP hl
  have hl : lv_has ls 6 [(0, .ref (B + 119)), (1, .int a1), (2, .int a2), (3, .long a3)] := hl
  have hS : va_S (FB B) s.heap s.heap [] := va_S.rf
  obtain ⟨hx, hb, hr, hml, hown, hts, hKn, hlk⟩ := id X
  unfold f_X9_tellsOf at h
  refine lv_iload_n hx hb dX9_tellsOf_0 rfl (lv_at hl 1 rfl) ?_
  refine lv_if_ne (tgt := 9) hx hb dX9_tellsOf_1 (by decide) (fun hc => ?_) (fun hc => ?_)
  · replace h := if_eln h hc
    refine lv_aload_n hx hb dX9_tellsOf_9 rfl (lv_at hl 0 rfl) ?_
    refine gf_X9_7 X hP dX9_tellsOf_10 ?_
    refine lv_iload_n hx hb dX9_tellsOf_13 rfl (lv_at hl 2 rfl) ?_
    obtain ⟨g_1, h⟩ := gd_el h
    refine r_iald X hP kq_120 g_1 dX9_tellsOf_14 ?_
    refine lv_if_ne (tgt := 22) hx hb dX9_tellsOf_15 (by decide) (fun hc => ?_) (fun hc => ?_)
    · replace h := if_eln h hc
      refine lv_aload_n hx hb dX9_tellsOf_22 rfl (lv_at hl 0 rfl) ?_
      refine gf_X9_7 X hP dX9_tellsOf_23 ?_
      refine lv_iload_n hx hb dX9_tellsOf_26 rfl (lv_at hl 2 rfl) ?_
      obtain ⟨g_2, h⟩ := gd_el h
      refine r_iald X hP kq_120 g_2 dX9_tellsOf_27 ?_
      refine lv_iconst (v := 2) hx hb dX9_tellsOf_28 (by decide) ?_
      refine lv_icmp_ne (tgt := 36) hx hb dX9_tellsOf_29 (by decide) (fun hc => ?_) (fun hc => ?_)
      · replace h := if_eln h hc
        refine lv_aload_n hx hb dX9_tellsOf_36 rfl (lv_at hl 0 rfl) ?_
        refine gf_X9_13 X hP dX9_tellsOf_37 ?_
        refine lv_iload_n hx hb dX9_tellsOf_40 rfl (lv_at hl 2 rfl) ?_
        obtain ⟨g_3, h⟩ := gd_el h
        refine r_lald X hP kq_121 g_3 dX9_tellsOf_41 ?_
        refine lv_lconst (v := 0) hx hb dX9_tellsOf_42 rfl ?_
        refine W.lcmp hx hb dX9_tellsOf_43 ?_
        refine lv_if_ne (tgt := 51) hx hb dX9_tellsOf_44 (by decide) (fun hc => ?_) (fun hc => ?_)
        · replace h := if_eln h (fun z => hc (lc_eq.mpr z))
          refine lv_lload_n hx hb dX9_tellsOf_51 rfl (lv_at hl 3 rfl) ?_
          refine lv_ldc2 (v := (-9223372036854775808)) hx hb hown (hts _ k_767) dX9_tellsOf_52 ?_
          refine W.lcmp hx hb dX9_tellsOf_55 ?_
          refine lv_if_ne (tgt := 76) hx hb dX9_tellsOf_56 (by decide) (fun hc => ?_) (fun hc => ?_)
          · replace h := if_eln h (fun z => hc (lc_eq.mpr z))
            exact w_X9_tellsOf_76 X hP hS (lv_sub hl [0, 2, 3] rfl) h
          · replace h := if_elp h (lc_eq.mp hc)
            refine lv_aload_n hx hb dX9_tellsOf_59 rfl (lv_at hl 0 rfl) ?_
            refine gf_X9_13 X hP dX9_tellsOf_60 ?_
            refine lv_iload_n hx hb dX9_tellsOf_63 rfl (lv_at hl 2 rfl) ?_
            obtain ⟨g_4, h⟩ := gd_el h
            refine r_lald X hP kq_121 g_4 dX9_tellsOf_64 ?_
            refine lv_ldc2 (v := (-1)) hx hb hown (hts _ k_771) dX9_tellsOf_65 ?_
            refine W.lcmp hx hb dX9_tellsOf_68 ?_
            refine lv_if_ne (tgt := 76) hx hb dX9_tellsOf_69 (by decide) (fun hc => ?_) (fun hc => ?_)
            · replace h := if_eln h (fun z => hc (lc_eq.mpr z))
              exact w_X9_tellsOf_76 X hP hS (lv_sub hl [0, 2, 3] rfl) h
            · replace h := if_elp h (lc_eq.mp hc)
              refine lv_iconst (v := 5) hx hb dX9_tellsOf_72 (by decide) ?_
              refine lv_goto (tgt := 77) hx hb dX9_tellsOf_73 (by decide) ?_
              exact w_X9_tellsOf_77 X hP hS (lv_sub hl [0, 2, 3] rfl) h
        · replace h := if_elp h (lc_eq.mp hc)
          refine lv_iconst (v := 4) hx hb dX9_tellsOf_47 (by decide) ?_
          refine lv_goto (tgt := 77) hx hb dX9_tellsOf_48 (by decide) ?_
          exact w_X9_tellsOf_77 X hP hS (lv_sub hl [0, 2, 3] rfl) h
      · replace h := if_elp h hc
        refine lv_iconst (v := 3) hx hb dX9_tellsOf_32 (by decide) ?_
        refine lv_goto (tgt := 77) hx hb dX9_tellsOf_33 (by decide) ?_
        exact w_X9_tellsOf_77 X hP hS (lv_sub hl [0, 2, 3] rfl) h
    · replace h := if_elp h hc
      refine lv_iconst (v := 1) hx hb dX9_tellsOf_18 (by decide) ?_
      refine lv_goto (tgt := 77) hx hb dX9_tellsOf_19 (by decide) ?_
      exact w_X9_tellsOf_77 X hP hS (lv_sub hl [0, 2, 3] rfl) h
  · replace h := if_elp h hc
    refine lv_lload_n hx hb dX9_tellsOf_4 rfl (lv_at hl 3 rfl) ?_
    refine lv_iload_n hx hb dX9_tellsOf_5 rfl (lv_at hl 2 rfl) ?_
    refine lv_i2l (v := (Int32.toInt64 a2)) hx hb dX9_tellsOf_6 rfl ?_
    refine lv_ladd hx hb dX9_tellsOf_7 ?_
    exact r_lret X hP hS (pr0 h) rfl dX9_tellsOf_8
abbrev rmX9_takeEffect : Room := { frames := 1, cells := 0, slots := 0, locals := 25 }
def f_X9_takeEffect_425 (K339 : Mem → Int32 → Int32 → Int32 → Option (Mem)) (M : Mem) (v1 : Int32) (v2 : Int32) (v3 : Int32) : Option (Mem) :=
  lt (v3 + 1) fun v_1 => K339 M v1 v2 v_1
set_option maxRecDepth 100000 in
set_option maxHeartbeats 4000000 in
theorem w_X9_takeEffect_425 (X : Cx p s m args meth c cX9_takeEffect RX9 5 none G cy) {out : Mem} {K339 : Mem → Int32 → Int32 → Int32 → Option (Mem)} (hK339 : ∀ (H : Heap) (locs : List Loc) (ls : Array Slot) (M : Mem) (v1 : Int32) (v2 : Int32) (v3 : Int32), Pic G B cy nT M H → va_S (FB B) s.heap H locs → lv_has ls 5 [(0, .ref (B + 119)), (1, .int v1), (2, .int v2), (3, .int v3)] → K339 M v1 v2 v3 = some out → W p l e rmX9_takeEffect s m args below meth c H locs 0 0 (MQ below (Qv G B cy nT out) args s 0 0 (FB B)) (F0 m 339 ls [])) {M : Mem} {v1 : Int32} {v2 : Int32} {v3 : Int32} (hP : Pic G B cy nT M H) (hS : va_S (FB B) s.heap H locs) (hl : lv_has ls 5 [(0, .ref (B + 119)), (1, .int v1), (2, .int v2), (3, .int v3)]) (h : f_X9_takeEffect_425 K339 M v1 v2 v3 = some out) : W p l e rmX9_takeEffect s m args below meth c H locs 0 0 (MQ below (Qv G B cy nT out) args s 0 0 (FB B)) (F0 m 425 ls []) := by
  obtain ⟨hx, hb, hr, hml, hown, hts, hKn, hlk⟩ := id X
  unfold f_X9_takeEffect_425 at h
  obtain ⟨v_1, e_1, h⟩ := lt_el h
  refine lv_iinc (v := v_1) (lv' := [(3, .int v_1), (0, .ref (B + 119)), (1, .int v1), (2, .int v2)]) hx hb dX9_takeEffect_425 hl (k := 3) rfl (by rw [e_1]; rfl) (by decide) rfl (fun ls hl => ?_)
  refine lv_goto (tgt := 339) hx hb dX9_takeEffect_428 (by decide) ?_
  exact hK339 _ _ _ _ _ _ _ hP hS (lv_sub hl [1, 2, 3, 0] rfl) h
def f_X9_takeEffect_419 (K339 : Mem → Int32 → Int32 → Int32 → Option (Mem)) (K350 : Mem → Int32 → Int32 → Int32 → Int32 → Option (Mem)) (M : Mem) (v1 : Int32) (v2 : Int32) (v3 : Int32) (v4 : Int32) : Option (Mem) :=
  lt (v4 + 1) fun v_1 => K350 M v1 v2 v3 v_1
set_option maxRecDepth 100000 in
set_option maxHeartbeats 4000000 in
theorem w_X9_takeEffect_419 (X : Cx p s m args meth c cX9_takeEffect RX9 5 none G cy) {out : Mem} {K339 : Mem → Int32 → Int32 → Int32 → Option (Mem)} {K350 : Mem → Int32 → Int32 → Int32 → Int32 → Option (Mem)} (hK339 : ∀ (H : Heap) (locs : List Loc) (ls : Array Slot) (M : Mem) (v1 : Int32) (v2 : Int32) (v3 : Int32), Pic G B cy nT M H → va_S (FB B) s.heap H locs → lv_has ls 5 [(0, .ref (B + 119)), (1, .int v1), (2, .int v2), (3, .int v3)] → K339 M v1 v2 v3 = some out → W p l e rmX9_takeEffect s m args below meth c H locs 0 0 (MQ below (Qv G B cy nT out) args s 0 0 (FB B)) (F0 m 339 ls [])) (hK350 : ∀ (H : Heap) (locs : List Loc) (ls : Array Slot) (M : Mem) (v1 : Int32) (v2 : Int32) (v3 : Int32) (v4 : Int32), Pic G B cy nT M H → va_S (FB B) s.heap H locs → lv_has ls 5 [(0, .ref (B + 119)), (1, .int v1), (2, .int v2), (3, .int v3), (4, .int v4)] → K350 M v1 v2 v3 v4 = some out → W p l e rmX9_takeEffect s m args below meth c H locs 0 0 (MQ below (Qv G B cy nT out) args s 0 0 (FB B)) (F0 m 350 ls [])) {M : Mem} {v1 : Int32} {v2 : Int32} {v3 : Int32} {v4 : Int32} (hP : Pic G B cy nT M H) (hS : va_S (FB B) s.heap H locs) (hl : lv_has ls 5 [(0, .ref (B + 119)), (1, .int v1), (2, .int v2), (3, .int v3), (4, .int v4)]) (h : f_X9_takeEffect_419 K339 K350 M v1 v2 v3 v4 = some out) : W p l e rmX9_takeEffect s m args below meth c H locs 0 0 (MQ below (Qv G B cy nT out) args s 0 0 (FB B)) (F0 m 419 ls []) := by
  obtain ⟨hx, hb, hr, hml, hown, hts, hKn, hlk⟩ := id X
  unfold f_X9_takeEffect_419 at h
  obtain ⟨v_1, e_1, h⟩ := lt_el h
  refine lv_iinc (v := v_1) (lv' := [(4, .int v_1), (0, .ref (B + 119)), (1, .int v1), (2, .int v2), (3, .int v3)]) hx hb dX9_takeEffect_419 hl (k := 4) rfl (by rw [e_1]; rfl) (by decide) rfl (fun ls hl => ?_)
  refine lv_goto (tgt := 350) hx hb dX9_takeEffect_422 (by decide) ?_
  exact hK350 _ _ _ _ _ _ _ _ hP hS (lv_sub hl [1, 2, 3, 4, 0] rfl) h
def f_X9_takeEffect_350 (K339 : Mem → Int32 → Int32 → Int32 → Option (Mem)) : Nat → Mem → Int32 → Int32 → Int32 → Int32 → Option (Mem)
  | 0, _, _, _, _, _ => none
  | n + 1, M, v1, v2, v3, v4 => if 40 ≤ v4 then (f_X9_takeEffect_425 K339 M v1 v2 v3) else (gd (inR v3 20) <| if (gI M 138 v3.toNatClampNeg) = 3 then (gd (inR ((40 * v2) + v4) 160) <| if (bI (gB M 163 ((40 * v2) + v4).toNatClampNeg)) = 0 then (f_X9_takeEffect_419 K339 (f_X9_takeEffect_350 K339 n) M v1 v2 v3 v4) else (gd (inR ((40 * v3) + v4) 800) <| if (bI (gB M 151 ((40 * v3) + v4).toNatClampNeg)) = 0 then (f_X9_takeEffect_419 K339 (f_X9_takeEffect_350 K339 n) M v1 v2 v3 v4) else (gd (inR v3 20) <| lt (sI M 138 v3.toNatClampNeg 0) fun M_1 => gd (inR v3 20) <| lt (sI M_1 144 v3.toNatClampNeg v4) fun M_2 => gd (inR v3 20) <| lt (sI M_2 145 v3.toNatClampNeg v1) fun M_3 => f_X9_takeEffect_419 K339 (f_X9_takeEffect_350 K339 n) M_3 v1 v2 v3 v4))) else (f_X9_takeEffect_425 K339 M v1 v2 v3))
set_option maxRecDepth 100000 in
set_option maxHeartbeats 4000000 in
theorem w_X9_takeEffect_350 (X : Cx p s m args meth c cX9_takeEffect RX9 5 none G cy) {out : Mem} {K339 : Mem → Int32 → Int32 → Int32 → Option (Mem)} (hK339 : ∀ (H : Heap) (locs : List Loc) (ls : Array Slot) (M : Mem) (v1 : Int32) (v2 : Int32) (v3 : Int32), Pic G B cy nT M H → va_S (FB B) s.heap H locs → lv_has ls 5 [(0, .ref (B + 119)), (1, .int v1), (2, .int v2), (3, .int v3)] → K339 M v1 v2 v3 = some out → W p l e rmX9_takeEffect s m args below meth c H locs 0 0 (MQ below (Qv G B cy nT out) args s 0 0 (FB B)) (F0 m 339 ls [])) : ∀ n : Nat, ∀ (H : Heap) (locs : List Loc) (ls : Array Slot) (M : Mem) (v1 : Int32) (v2 : Int32) (v3 : Int32) (v4 : Int32), Pic G B cy nT M H → va_S (FB B) s.heap H locs → lv_has ls 5 [(0, .ref (B + 119)), (1, .int v1), (2, .int v2), (3, .int v3), (4, .int v4)] → f_X9_takeEffect_350 K339 n M v1 v2 v3 v4 = some out → W p l e rmX9_takeEffect s m args below meth c H locs 0 0 (MQ below (Qv G B cy nT out) args s 0 0 (FB B)) (F0 m 350 ls []) := by
  obtain ⟨hx, hb, hr, hml, hown, hts, hKn, hlk⟩ := id X
  intro n
  induction n with
  | zero =>
    intro H locs ls M v1 v2 v3 v4 hP hS hl h
    cases h
  | succ n ih =>
    intro H locs ls M v1 v2 v3 v4 hP hS hl h
    rw [f_X9_takeEffect_350] at h
    refine lv_iload hx hb dX9_takeEffect_350 (lv_at hl 4 rfl) ?_
    refine lv_bipush (v := 40) hx hb dX9_takeEffect_352 (by decide) ?_
    refine lv_icmp_ge (tgt := 425) hx hb dX9_takeEffect_354 (by decide) (fun hc => ?_) (fun hc => ?_)
    · replace h := if_elp h hc
      exact w_X9_takeEffect_425 X hK339 hP hS (lv_sub hl [0, 1, 2, 3] rfl) h
    · replace h := if_eln h hc
      refine lv_aload_n hx hb dX9_takeEffect_357 rfl (lv_at hl 0 rfl) ?_
      refine gf_X9_65 X hP dX9_takeEffect_358 ?_
      refine lv_iload_n hx hb dX9_takeEffect_361 rfl (lv_at hl 3 rfl) ?_
      obtain ⟨g_1, h⟩ := gd_el h
      refine r_iald X hP kq_138 g_1 dX9_takeEffect_362 ?_
      refine lv_iconst (v := 3) hx hb dX9_takeEffect_363 (by decide) ?_
      refine lv_icmp_ne (tgt := 425) hx hb dX9_takeEffect_364 (by decide) (fun hc => ?_) (fun hc => ?_)
      · replace h := if_eln h hc
        exact w_X9_takeEffect_425 X hK339 hP hS (lv_sub hl [0, 1, 2, 3] rfl) h
      · replace h := if_elp h hc
        refine lv_aload_n hx hb dX9_takeEffect_367 rfl (lv_at hl 0 rfl) ?_
        refine gf_X9_145 X hP dX9_takeEffect_368 ?_
        refine lv_bipush (v := 40) hx hb dX9_takeEffect_371 (by decide) ?_
        refine lv_iload_n hx hb dX9_takeEffect_373 rfl (lv_at hl 2 rfl) ?_
        refine lv_imul hx hb dX9_takeEffect_374 ?_
        refine lv_iload hx hb dX9_takeEffect_375 (lv_at hl 4 rfl) ?_
        refine lv_iadd hx hb dX9_takeEffect_377 ?_
        obtain ⟨g_2, h⟩ := gd_el h
        refine r_zald X hP kq_163 g_2 dX9_takeEffect_378 ?_
        refine lv_if_eq (tgt := 419) hx hb dX9_takeEffect_379 (by decide) (fun hc => ?_) (fun hc => ?_)
        · replace h := if_elp h hc
          exact w_X9_takeEffect_419 X hK339 ih hP hS (lv_sub hl [0, 1, 2, 3, 4] rfl) h
        · replace h := if_eln h hc
          refine lv_aload_n hx hb dX9_takeEffect_382 rfl (lv_at hl 0 rfl) ?_
          refine gf_X9_105 X hP dX9_takeEffect_383 ?_
          refine lv_bipush (v := 40) hx hb dX9_takeEffect_386 (by decide) ?_
          refine lv_iload_n hx hb dX9_takeEffect_388 rfl (lv_at hl 3 rfl) ?_
          refine lv_imul hx hb dX9_takeEffect_389 ?_
          refine lv_iload hx hb dX9_takeEffect_390 (lv_at hl 4 rfl) ?_
          refine lv_iadd hx hb dX9_takeEffect_392 ?_
          obtain ⟨g_3, h⟩ := gd_el h
          refine r_zald X hP kq_151 g_3 dX9_takeEffect_393 ?_
          refine lv_if_eq (tgt := 419) hx hb dX9_takeEffect_394 (by decide) (fun hc => ?_) (fun hc => ?_)
          · replace h := if_elp h hc
            exact w_X9_takeEffect_419 X hK339 ih hP hS (lv_sub hl [0, 1, 2, 3, 4] rfl) h
          · replace h := if_eln h hc
            refine lv_aload_n hx hb dX9_takeEffect_397 rfl (lv_at hl 0 rfl) ?_
            refine gf_X9_65 X hP dX9_takeEffect_398 ?_
            refine lv_iload_n hx hb dX9_takeEffect_401 rfl (lv_at hl 3 rfl) ?_
            refine lv_iconst (v := 0) hx hb dX9_takeEffect_402 (by decide) ?_
            obtain ⟨g_4, h⟩ := gd_el h
            obtain ⟨M_1, e_1, h⟩ := lt_el h
            refine r_iast X hP hS kq_138 g_4 e_1 dX9_takeEffect_403 (fun H locs hP hS => ?_)
            refine lv_aload_n hx hb dX9_takeEffect_404 rfl (lv_at hl 0 rfl) ?_
            refine gf_X9_83 X hP dX9_takeEffect_405 ?_
            refine lv_iload_n hx hb dX9_takeEffect_408 rfl (lv_at hl 3 rfl) ?_
            refine lv_iload hx hb dX9_takeEffect_409 (lv_at hl 4 rfl) ?_
            obtain ⟨g_5, h⟩ := gd_el h
            obtain ⟨M_2, e_2, h⟩ := lt_el h
            refine r_iast X hP hS kq_144 g_5 e_2 dX9_takeEffect_411 (fun H locs hP hS => ?_)
            refine lv_aload_n hx hb dX9_takeEffect_412 rfl (lv_at hl 0 rfl) ?_
            refine gf_X9_86 X hP dX9_takeEffect_413 ?_
            refine lv_iload_n hx hb dX9_takeEffect_416 rfl (lv_at hl 3 rfl) ?_
            refine lv_iload_n hx hb dX9_takeEffect_417 rfl (lv_at hl 1 rfl) ?_
            obtain ⟨g_6, h⟩ := gd_el h
            obtain ⟨M_3, e_3, h⟩ := lt_el h
            refine r_iast X hP hS kq_145 g_6 e_3 dX9_takeEffect_418 (fun H locs hP hS => ?_)
            exact w_X9_takeEffect_419 X hK339 ih hP hS (lv_sub hl [0, 1, 2, 3, 4] rfl) h
def f_X9_takeEffect_339 : Nat → Mem → Int32 → Int32 → Int32 → Option (Mem)
  | 0, _, _, _, _ => none
  | n + 1, M, v1, v2, v3 => if (gI M 119 18) ≤ v3 then (some M) else (f_X9_takeEffect_350 (f_X9_takeEffect_339 n) FU M v1 v2 v3 0)
set_option maxRecDepth 100000 in
set_option maxHeartbeats 4000000 in
theorem w_X9_takeEffect_339 (X : Cx p s m args meth c cX9_takeEffect RX9 5 none G cy) {out : Mem} : ∀ n : Nat, ∀ (H : Heap) (locs : List Loc) (ls : Array Slot) (M : Mem) (v1 : Int32) (v2 : Int32) (v3 : Int32), Pic G B cy nT M H → va_S (FB B) s.heap H locs → lv_has ls 5 [(0, .ref (B + 119)), (1, .int v1), (2, .int v2), (3, .int v3)] → f_X9_takeEffect_339 n M v1 v2 v3 = some out → W p l e rmX9_takeEffect s m args below meth c H locs 0 0 (MQ below (Qv G B cy nT out) args s 0 0 (FB B)) (F0 m 339 ls []) := by
  obtain ⟨hx, hb, hr, hml, hown, hts, hKn, hlk⟩ := id X
  intro n
  induction n with
  | zero =>
    intro H locs ls M v1 v2 v3 hP hS hl h
    cases h
  | succ n ih =>
    intro H locs ls M v1 v2 v3 hP hS hl h
    rw [f_X9_takeEffect_339] at h
    refine lv_iload_n hx hb dX9_takeEffect_339 rfl (lv_at hl 3 rfl) ?_
    refine lv_aload_n hx hb dX9_takeEffect_340 rfl (lv_at hl 0 rfl) ?_
    refine gf_X9_231 X hP dX9_takeEffect_341 ?_
    refine lv_icmp_ge (tgt := 431) hx hb dX9_takeEffect_344 (by decide) (fun hc => ?_) (fun hc => ?_)
    · replace h := if_elp h hc
      exact r_vret X hP hS (pr0 h) dX9_takeEffect_431
    · replace h := if_eln h hc
      refine lv_iconst (v := 0) hx hb dX9_takeEffect_347 (by decide) ?_
      refine lv_istore (lv' := [(4, .int 0), (0, .ref (B + 119)), (1, .int v1), (2, .int v2), (3, .int v3)]) hx hb dX9_takeEffect_348 hl (by decide) rfl (fun ls hl => ?_)
      exact w_X9_takeEffect_350 X ih FU _ _ _ _ _ _ _ _ hP hS (lv_sub hl [1, 2, 3, 4, 0] rfl) h
def f_X9_takeEffect_321 (K226 : Mem → Int32 → Int32 → Int32 → Option (Mem)) (M : Mem) (v1 : Int32) (v2 : Int32) (v3 : Int32) : Option (Mem) :=
  lt (sI M 119 42 ((gI M 119 42) + 1)) fun M_1 => lt (v3 + 1) fun v_1 => K226 M_1 v1 v2 v_1
set_option maxRecDepth 100000 in
set_option maxHeartbeats 4000000 in
theorem w_X9_takeEffect_321 (X : Cx p s m args meth c cX9_takeEffect RX9 5 none G cy) {out : Mem} {K226 : Mem → Int32 → Int32 → Int32 → Option (Mem)} (hK226 : ∀ (H : Heap) (locs : List Loc) (ls : Array Slot) (M : Mem) (v1 : Int32) (v2 : Int32) (v3 : Int32), Pic G B cy nT M H → va_S (FB B) s.heap H locs → lv_has ls 5 [(0, .ref (B + 119)), (1, .int v1), (2, .int v2), (3, .int v3)] → K226 M v1 v2 v3 = some out → W p l e rmX9_takeEffect s m args below meth c H locs 0 0 (MQ below (Qv G B cy nT out) args s 0 0 (FB B)) (F0 m 226 ls [])) {M : Mem} {v1 : Int32} {v2 : Int32} {v3 : Int32} (hP : Pic G B cy nT M H) (hS : va_S (FB B) s.heap H locs) (hl : lv_has ls 5 [(0, .ref (B + 119)), (1, .int v1), (2, .int v2), (3, .int v3)]) (h : f_X9_takeEffect_321 K226 M v1 v2 v3 = some out) : W p l e rmX9_takeEffect s m args below meth c H locs 0 0 (MQ below (Qv G B cy nT out) args s 0 0 (FB B)) (F0 m 321 ls []) := by
  obtain ⟨hx, hb, hr, hml, hown, hts, hKn, hlk⟩ := id X
  unfold f_X9_takeEffect_321 at h
  refine lv_aload_n hx hb dX9_takeEffect_321 rfl (lv_at hl 0 rfl) ?_
  refine lv_dup hx hb dX9_takeEffect_322 rfl ?_
  refine gf_X9_368 X hP dX9_takeEffect_323 ?_
  refine lv_iconst (v := 1) hx hb dX9_takeEffect_326 (by decide) ?_
  refine lv_iadd hx hb dX9_takeEffect_327 ?_
  obtain ⟨M_1, e_1, h⟩ := lt_el h
  refine pf_X9_368 X hP hS e_1 dX9_takeEffect_328 (fun H locs hP hS => ?_)
  obtain ⟨v_1, e_2, h⟩ := lt_el h
  refine lv_iinc (v := v_1) (lv' := [(3, .int v_1), (0, .ref (B + 119)), (1, .int v1), (2, .int v2)]) hx hb dX9_takeEffect_331 hl (k := 3) rfl (by rw [e_2]; rfl) (by decide) rfl (fun ls hl => ?_)
  refine lv_goto (tgt := 226) hx hb dX9_takeEffect_334 (by decide) ?_
  exact hK226 _ _ _ _ _ _ _ hP hS (lv_sub hl [1, 2, 3, 0] rfl) h
def f_X9_takeEffect_226 : Nat → Mem → Int32 → Int32 → Int32 → Option (Mem)
  | 0, _, _, _, _ => none
  | n + 1, M, v1, v2, v3 => gd (inR v2 4) <| if (gI M 172 v2.toNatClampNeg) ≤ v3 then (f_X9_takeEffect_339 FU M v1 v2 0) else (if 40 ≤ (gI M 119 42) then (f_X9_takeEffect_321 (f_X9_takeEffect_226 n) M v1 v2 v3) else (gd (inR (gI M 119 42) 40) <| lt (sI M 156 (gI M 119 42).toNatClampNeg v1) fun M_1 => gd (inR ((40 * v2) + v3) 160) <| gd (inR (gI M_1 119 42) 40) <| lt (sI M_1 157 (gI M_1 119 42).toNatClampNeg (gI M_1 173 ((40 * v2) + v3).toNatClampNeg)) fun M_2 => gd (inR ((40 * v2) + v3) 160) <| gd (inR ((40 * v2) + v3) 160) <| gd (inR ((40 * v2) + v3) 160) <| Option.bind (f_X9_tellsOf M_2 (gI M_2 173 ((40 * v2) + v3).toNatClampNeg) (gI M_2 174 ((40 * v2) + v3).toNatClampNeg) (gL M_2 175 ((40 * v2) + v3).toNatClampNeg)) fun r_1 => gd (inR (gI M_2 119 42) 40) <| lt (sL M_2 158 (gI M_2 119 42).toNatClampNeg r_1) fun M_3 => f_X9_takeEffect_321 (f_X9_takeEffect_226 n) M_3 v1 v2 v3))
set_option maxRecDepth 100000 in
set_option maxHeartbeats 4000000 in
theorem w_X9_takeEffect_226 (X : Cx p s m args meth c cX9_takeEffect RX9 5 none G cy) {out : Mem} : ∀ n : Nat, ∀ (H : Heap) (locs : List Loc) (ls : Array Slot) (M : Mem) (v1 : Int32) (v2 : Int32) (v3 : Int32), Pic G B cy nT M H → va_S (FB B) s.heap H locs → lv_has ls 5 [(0, .ref (B + 119)), (1, .int v1), (2, .int v2), (3, .int v3)] → f_X9_takeEffect_226 n M v1 v2 v3 = some out → W p l e rmX9_takeEffect s m args below meth c H locs 0 0 (MQ below (Qv G B cy nT out) args s 0 0 (FB B)) (F0 m 226 ls []) := by
  obtain ⟨hx, hb, hr, hml, hown, hts, hKn, hlk⟩ := id X
  intro n
  induction n with
  | zero =>
    intro H locs ls M v1 v2 v3 hP hS hl h
    cases h
  | succ n ih =>
    intro H locs ls M v1 v2 v3 hP hS hl h
    rw [f_X9_takeEffect_226] at h
    refine lv_iload_n hx hb dX9_takeEffect_226 rfl (lv_at hl 3 rfl) ?_
    refine lv_aload_n hx hb dX9_takeEffect_227 rfl (lv_at hl 0 rfl) ?_
    refine gf_X9_172 X hP dX9_takeEffect_228 ?_
    refine lv_iload_n hx hb dX9_takeEffect_231 rfl (lv_at hl 2 rfl) ?_
    obtain ⟨g_1, h⟩ := gd_el h
    refine r_iald X hP kq_172 g_1 dX9_takeEffect_232 ?_
    refine lv_icmp_ge (tgt := 337) hx hb dX9_takeEffect_233 (by decide) (fun hc => ?_) (fun hc => ?_)
    · replace h := if_elp h hc
      refine lv_iconst (v := 0) hx hb dX9_takeEffect_337 (by decide) ?_
      refine lv_istore_n (lv' := [(3, .int 0), (0, .ref (B + 119)), (1, .int v1), (2, .int v2)]) hx hb dX9_takeEffect_338 rfl hl (by decide) rfl (fun ls hl => ?_)
      exact w_X9_takeEffect_339 X FU _ _ _ _ _ _ _ hP hS (lv_sub hl [1, 2, 3, 0] rfl) h
    · replace h := if_eln h hc
      refine lv_aload_n hx hb dX9_takeEffect_236 rfl (lv_at hl 0 rfl) ?_
      refine gf_X9_368 X hP dX9_takeEffect_237 ?_
      refine lv_bipush (v := 40) hx hb dX9_takeEffect_240 (by decide) ?_
      refine lv_icmp_ge (tgt := 321) hx hb dX9_takeEffect_242 (by decide) (fun hc => ?_) (fun hc => ?_)
      · replace h := if_elp h hc
        exact w_X9_takeEffect_321 X ih hP hS (lv_sub hl [0, 1, 2, 3] rfl) h
      · replace h := if_eln h hc
        refine lv_aload_n hx hb dX9_takeEffect_245 rfl (lv_at hl 0 rfl) ?_
        refine gf_X9_124 X hP dX9_takeEffect_246 ?_
        refine lv_aload_n hx hb dX9_takeEffect_249 rfl (lv_at hl 0 rfl) ?_
        refine gf_X9_368 X hP dX9_takeEffect_250 ?_
        refine lv_iload_n hx hb dX9_takeEffect_253 rfl (lv_at hl 1 rfl) ?_
        obtain ⟨g_2, h⟩ := gd_el h
        obtain ⟨M_1, e_1, h⟩ := lt_el h
        refine r_iast X hP hS kq_156 g_2 e_1 dX9_takeEffect_254 (fun H locs hP hS => ?_)
        refine lv_aload_n hx hb dX9_takeEffect_255 rfl (lv_at hl 0 rfl) ?_
        refine gf_X9_127 X hP dX9_takeEffect_256 ?_
        refine lv_aload_n hx hb dX9_takeEffect_259 rfl (lv_at hl 0 rfl) ?_
        refine gf_X9_368 X hP dX9_takeEffect_260 ?_
        refine lv_aload_n hx hb dX9_takeEffect_263 rfl (lv_at hl 0 rfl) ?_
        refine gf_X9_175 X hP dX9_takeEffect_264 ?_
        refine lv_bipush (v := 40) hx hb dX9_takeEffect_267 (by decide) ?_
        refine lv_iload_n hx hb dX9_takeEffect_269 rfl (lv_at hl 2 rfl) ?_
        refine lv_imul hx hb dX9_takeEffect_270 ?_
        refine lv_iload_n hx hb dX9_takeEffect_271 rfl (lv_at hl 3 rfl) ?_
        refine lv_iadd hx hb dX9_takeEffect_272 ?_
        obtain ⟨g_3, h⟩ := gd_el h
        refine r_iald X hP kq_173 g_3 dX9_takeEffect_273 ?_
        obtain ⟨g_4, h⟩ := gd_el h
        obtain ⟨M_2, e_2, h⟩ := lt_el h
        refine r_iast X hP hS kq_157 g_4 e_2 dX9_takeEffect_274 (fun H locs hP hS => ?_)
        refine lv_aload_n hx hb dX9_takeEffect_275 rfl (lv_at hl 0 rfl) ?_
        refine gf_X9_130 X hP dX9_takeEffect_276 ?_
        refine lv_aload_n hx hb dX9_takeEffect_279 rfl (lv_at hl 0 rfl) ?_
        refine gf_X9_368 X hP dX9_takeEffect_280 ?_
        refine lv_aload_n hx hb dX9_takeEffect_283 rfl (lv_at hl 0 rfl) ?_
        refine lv_aload_n hx hb dX9_takeEffect_284 rfl (lv_at hl 0 rfl) ?_
        refine gf_X9_175 X hP dX9_takeEffect_285 ?_
        refine lv_bipush (v := 40) hx hb dX9_takeEffect_288 (by decide) ?_
        refine lv_iload_n hx hb dX9_takeEffect_290 rfl (lv_at hl 2 rfl) ?_
        refine lv_imul hx hb dX9_takeEffect_291 ?_
        refine lv_iload_n hx hb dX9_takeEffect_292 rfl (lv_at hl 3 rfl) ?_
        refine lv_iadd hx hb dX9_takeEffect_293 ?_
        obtain ⟨g_5, h⟩ := gd_el h
        refine r_iald X hP kq_173 g_5 dX9_takeEffect_294 ?_
        refine lv_aload_n hx hb dX9_takeEffect_295 rfl (lv_at hl 0 rfl) ?_
        refine gf_X9_178 X hP dX9_takeEffect_296 ?_
        refine lv_bipush (v := 40) hx hb dX9_takeEffect_299 (by decide) ?_
        refine lv_iload_n hx hb dX9_takeEffect_301 rfl (lv_at hl 2 rfl) ?_
        refine lv_imul hx hb dX9_takeEffect_302 ?_
        refine lv_iload_n hx hb dX9_takeEffect_303 rfl (lv_at hl 3 rfl) ?_
        refine lv_iadd hx hb dX9_takeEffect_304 ?_
        obtain ⟨g_6, h⟩ := gd_el h
        refine r_iald X hP kq_174 g_6 dX9_takeEffect_305 ?_
        refine lv_aload_n hx hb dX9_takeEffect_306 rfl (lv_at hl 0 rfl) ?_
        refine gf_X9_181 X hP dX9_takeEffect_307 ?_
        refine lv_bipush (v := 40) hx hb dX9_takeEffect_310 (by decide) ?_
        refine lv_iload_n hx hb dX9_takeEffect_312 rfl (lv_at hl 2 rfl) ?_
        refine lv_imul hx hb dX9_takeEffect_313 ?_
        refine lv_iload_n hx hb dX9_takeEffect_314 rfl (lv_at hl 3 rfl) ?_
        refine lv_iadd hx hb dX9_takeEffect_315 ?_
        obtain ⟨g_7, h⟩ := gd_el h
        refine r_lald X hP kq_175 g_7 dX9_takeEffect_316 ?_
        obtain ⟨r_1, h_1, h⟩ := bd_el h
        refine cl_l (rn_V (C := RX9) (ci := 9) X hP (c_X9_tellsOf h_1) kq_119 rfl k_815 k_816 k_934 k_9 k_817 rfl hd_X9_tellsOf (n := 3) ⟨⟨rfl, rfl⟩, Nat.le_of_ble_eq_true rfl, Nat.le_of_ble_eq_true rfl⟩ (As := [.int (gI M_2 173 ((40 * v2) + v3).toNatClampNeg), .int (gI M_2 174 ((40 * v2) + v3).toNatClampNeg), .long (gL M_2 175 ((40 * v2) + v3).toNatClampNeg)]) (rest := [.int (gI M_2 119 42), .ref (B + 158)]) rfl hl.1 rfl (Nat.le_of_ble_eq_true rfl) dX9_takeEffect_317 ⟨Nat.zero_le _, Nat.zero_le _⟩) hS (fun H locs hP hS => ?_)
        obtain ⟨g_8, h⟩ := gd_el h
        obtain ⟨M_3, e_3, h⟩ := lt_el h
        refine r_last X hP hS kq_158 g_8 e_3 dX9_takeEffect_320 (fun H locs hP hS => ?_)
        exact w_X9_takeEffect_321 X ih hP hS (lv_sub hl [0, 1, 2, 3] rfl) h
def f_X9_takeEffect_224 (M : Mem) (v1 : Int32) (v2 : Int32) : Option (Mem) :=
  f_X9_takeEffect_226 FU M v1 v2 0
set_option maxRecDepth 100000 in
set_option maxHeartbeats 4000000 in
theorem w_X9_takeEffect_224 (X : Cx p s m args meth c cX9_takeEffect RX9 5 none G cy) {out : Mem} {M : Mem} {v1 : Int32} {v2 : Int32} (hP : Pic G B cy nT M H) (hS : va_S (FB B) s.heap H locs) (hl : lv_has ls 5 [(0, .ref (B + 119)), (1, .int v1), (2, .int v2)]) (h : f_X9_takeEffect_224 M v1 v2 = some out) : W p l e rmX9_takeEffect s m args below meth c H locs 0 0 (MQ below (Qv G B cy nT out) args s 0 0 (FB B)) (F0 m 224 ls []) := by
  obtain ⟨hx, hb, hr, hml, hown, hts, hKn, hlk⟩ := id X
  unfold f_X9_takeEffect_224 at h
  refine lv_iconst (v := 0) hx hb dX9_takeEffect_224 (by decide) ?_
  refine lv_istore_n (lv' := [(3, .int 0), (0, .ref (B + 119)), (1, .int v1), (2, .int v2)]) hx hb dX9_takeEffect_225 rfl hl (by decide) rfl (fun ls hl => ?_)
  exact w_X9_takeEffect_226 X FU _ _ _ _ _ _ _ hP hS (lv_sub hl [1, 2, 3, 0] rfl) h
def f_X9_takeEffect_180 : Nat → Mem → Int32 → Int32 → Int32 → Option (Mem)
  | 0, _, _, _, _ => none
  | n + 1, M, v1, v2, v3 => if 8 ≤ v3 then (f_X9_takeEffect_224 M v1 v2) else (gd (inR v2 4) <| if (gI M 170 v2.toNatClampNeg) ≤ v3 then (f_X9_takeEffect_224 M v1 v2) else (gd (inR ((8 * v2) + v3) 32) <| gd (inR ((8 * v1) + v3) 160) <| lt (sL M 146 ((8 * v1) + v3).toNatClampNeg (gL M 171 ((8 * v2) + v3).toNatClampNeg)) fun M_1 => lt (v3 + 1) fun v_1 => (f_X9_takeEffect_180 n) M_1 v1 v2 v_1))
set_option maxRecDepth 100000 in
set_option maxHeartbeats 4000000 in
theorem w_X9_takeEffect_180 (X : Cx p s m args meth c cX9_takeEffect RX9 5 none G cy) {out : Mem} : ∀ n : Nat, ∀ (H : Heap) (locs : List Loc) (ls : Array Slot) (M : Mem) (v1 : Int32) (v2 : Int32) (v3 : Int32), Pic G B cy nT M H → va_S (FB B) s.heap H locs → lv_has ls 5 [(0, .ref (B + 119)), (1, .int v1), (2, .int v2), (3, .int v3)] → f_X9_takeEffect_180 n M v1 v2 v3 = some out → W p l e rmX9_takeEffect s m args below meth c H locs 0 0 (MQ below (Qv G B cy nT out) args s 0 0 (FB B)) (F0 m 180 ls []) := by
  obtain ⟨hx, hb, hr, hml, hown, hts, hKn, hlk⟩ := id X
  intro n
  induction n with
  | zero =>
    intro H locs ls M v1 v2 v3 hP hS hl h
    cases h
  | succ n ih =>
    intro H locs ls M v1 v2 v3 hP hS hl h
    rw [f_X9_takeEffect_180] at h
    refine lv_iload_n hx hb dX9_takeEffect_180 rfl (lv_at hl 3 rfl) ?_
    refine lv_bipush (v := 8) hx hb dX9_takeEffect_181 (by decide) ?_
    refine lv_icmp_ge (tgt := 224) hx hb dX9_takeEffect_183 (by decide) (fun hc => ?_) (fun hc => ?_)
    · replace h := if_elp h hc
      exact w_X9_takeEffect_224 X hP hS (lv_sub hl [0, 1, 2] rfl) h
    · replace h := if_eln h hc
      refine lv_iload_n hx hb dX9_takeEffect_186 rfl (lv_at hl 3 rfl) ?_
      refine lv_aload_n hx hb dX9_takeEffect_187 rfl (lv_at hl 0 rfl) ?_
      refine gf_X9_166 X hP dX9_takeEffect_188 ?_
      refine lv_iload_n hx hb dX9_takeEffect_191 rfl (lv_at hl 2 rfl) ?_
      obtain ⟨g_1, h⟩ := gd_el h
      refine r_iald X hP kq_170 g_1 dX9_takeEffect_192 ?_
      refine lv_icmp_ge (tgt := 224) hx hb dX9_takeEffect_193 (by decide) (fun hc => ?_) (fun hc => ?_)
      · replace h := if_elp h hc
        exact w_X9_takeEffect_224 X hP hS (lv_sub hl [0, 1, 2] rfl) h
      · replace h := if_eln h hc
        refine lv_aload_n hx hb dX9_takeEffect_196 rfl (lv_at hl 0 rfl) ?_
        refine gf_X9_89 X hP dX9_takeEffect_197 ?_
        refine lv_bipush (v := 8) hx hb dX9_takeEffect_200 (by decide) ?_
        refine lv_iload_n hx hb dX9_takeEffect_202 rfl (lv_at hl 1 rfl) ?_
        refine lv_imul hx hb dX9_takeEffect_203 ?_
        refine lv_iload_n hx hb dX9_takeEffect_204 rfl (lv_at hl 3 rfl) ?_
        refine lv_iadd hx hb dX9_takeEffect_205 ?_
        refine lv_aload_n hx hb dX9_takeEffect_206 rfl (lv_at hl 0 rfl) ?_
        refine gf_X9_169 X hP dX9_takeEffect_207 ?_
        refine lv_bipush (v := 8) hx hb dX9_takeEffect_210 (by decide) ?_
        refine lv_iload_n hx hb dX9_takeEffect_212 rfl (lv_at hl 2 rfl) ?_
        refine lv_imul hx hb dX9_takeEffect_213 ?_
        refine lv_iload_n hx hb dX9_takeEffect_214 rfl (lv_at hl 3 rfl) ?_
        refine lv_iadd hx hb dX9_takeEffect_215 ?_
        obtain ⟨g_2, h⟩ := gd_el h
        refine r_lald X hP kq_171 g_2 dX9_takeEffect_216 ?_
        obtain ⟨g_3, h⟩ := gd_el h
        obtain ⟨M_1, e_1, h⟩ := lt_el h
        refine r_last X hP hS kq_146 g_3 e_1 dX9_takeEffect_217 (fun H locs hP hS => ?_)
        obtain ⟨v_1, e_2, h⟩ := lt_el h
        refine lv_iinc (v := v_1) (lv' := [(3, .int v_1), (0, .ref (B + 119)), (1, .int v1), (2, .int v2)]) hx hb dX9_takeEffect_218 hl (k := 3) rfl (by rw [e_2]; rfl) (by decide) rfl (fun ls hl => ?_)
        refine lv_goto (tgt := 180) hx hb dX9_takeEffect_221 (by decide) ?_
        exact ih _ _ _ _ _ _ _ hP hS (lv_sub hl [1, 2, 3, 0] rfl) h
def f_X9_takeEffect_133 (K2 : Mem → Int32 → Int32 → Int32 → Option (Mem)) (M : Mem) (v1 : Int32) (v2 : Int32) (v3 : Int32) : Option (Mem) :=
  lt (v3 + 1) fun v_1 => K2 M v1 v2 v_1
set_option maxRecDepth 100000 in
set_option maxHeartbeats 4000000 in
theorem w_X9_takeEffect_133 (X : Cx p s m args meth c cX9_takeEffect RX9 5 none G cy) {out : Mem} {K2 : Mem → Int32 → Int32 → Int32 → Option (Mem)} (hK2 : ∀ (H : Heap) (locs : List Loc) (ls : Array Slot) (M : Mem) (v1 : Int32) (v2 : Int32) (v3 : Int32), Pic G B cy nT M H → va_S (FB B) s.heap H locs → lv_has ls 5 [(0, .ref (B + 119)), (1, .int v1), (2, .int v2), (3, .int v3)] → K2 M v1 v2 v3 = some out → W p l e rmX9_takeEffect s m args below meth c H locs 0 0 (MQ below (Qv G B cy nT out) args s 0 0 (FB B)) (F0 m 2 ls [])) {M : Mem} {v1 : Int32} {v2 : Int32} {v3 : Int32} (hP : Pic G B cy nT M H) (hS : va_S (FB B) s.heap H locs) (hl : lv_has ls 5 [(0, .ref (B + 119)), (1, .int v1), (2, .int v2), (3, .int v3)]) (h : f_X9_takeEffect_133 K2 M v1 v2 v3 = some out) : W p l e rmX9_takeEffect s m args below meth c H locs 0 0 (MQ below (Qv G B cy nT out) args s 0 0 (FB B)) (F0 m 133 ls []) := by
  obtain ⟨hx, hb, hr, hml, hown, hts, hKn, hlk⟩ := id X
  unfold f_X9_takeEffect_133 at h
  obtain ⟨v_1, e_1, h⟩ := lt_el h
  refine lv_iinc (v := v_1) (lv' := [(3, .int v_1), (0, .ref (B + 119)), (1, .int v1), (2, .int v2)]) hx hb dX9_takeEffect_133 hl (k := 3) rfl (by rw [e_1]; rfl) (by decide) rfl (fun ls hl => ?_)
  refine lv_goto (tgt := 2) hx hb dX9_takeEffect_136 (by decide) ?_
  exact hK2 _ _ _ _ _ _ _ hP hS (lv_sub hl [1, 2, 3, 0] rfl) h
def f_X9_takeEffect_123 (K2 : Mem → Int32 → Int32 → Int32 → Option (Mem)) (M : Mem) (v1 : Int32) (v2 : Int32) (v3 : Int32) : Option (Mem) :=
  gd (inR v3 40) <| gd (inR v3 40) <| lt (sI M 126 v3.toNatClampNeg ((gI M 126 v3.toNatClampNeg) + 1)) fun M_1 => f_X9_takeEffect_133 K2 M_1 v1 v2 v3
set_option maxRecDepth 100000 in
set_option maxHeartbeats 4000000 in
theorem w_X9_takeEffect_123 (X : Cx p s m args meth c cX9_takeEffect RX9 5 none G cy) {out : Mem} {K2 : Mem → Int32 → Int32 → Int32 → Option (Mem)} (hK2 : ∀ (H : Heap) (locs : List Loc) (ls : Array Slot) (M : Mem) (v1 : Int32) (v2 : Int32) (v3 : Int32), Pic G B cy nT M H → va_S (FB B) s.heap H locs → lv_has ls 5 [(0, .ref (B + 119)), (1, .int v1), (2, .int v2), (3, .int v3)] → K2 M v1 v2 v3 = some out → W p l e rmX9_takeEffect s m args below meth c H locs 0 0 (MQ below (Qv G B cy nT out) args s 0 0 (FB B)) (F0 m 2 ls [])) {M : Mem} {v1 : Int32} {v2 : Int32} {v3 : Int32} (hP : Pic G B cy nT M H) (hS : va_S (FB B) s.heap H locs) (hl : lv_has ls 5 [(0, .ref (B + 119)), (1, .int v1), (2, .int v2), (3, .int v3)]) (h : f_X9_takeEffect_123 K2 M v1 v2 v3 = some out) : W p l e rmX9_takeEffect s m args below meth c H locs 0 0 (MQ below (Qv G B cy nT out) args s 0 0 (FB B)) (F0 m 123 ls []) := by
  obtain ⟨hx, hb, hr, hml, hown, hts, hKn, hlk⟩ := id X
  unfold f_X9_takeEffect_123 at h
  refine lv_aload_n hx hb dX9_takeEffect_123 rfl (lv_at hl 0 rfl) ?_
  refine gf_X9_29 X hP dX9_takeEffect_124 ?_
  refine lv_iload_n hx hb dX9_takeEffect_127 rfl (lv_at hl 3 rfl) ?_
  refine lv_dup2_11 hx hb dX9_takeEffect_128 rfl rfl ?_
  obtain ⟨g_1, h⟩ := gd_el h
  refine r_iald X hP kq_126 g_1 dX9_takeEffect_129 ?_
  refine lv_iconst (v := 1) hx hb dX9_takeEffect_130 (by decide) ?_
  refine lv_iadd hx hb dX9_takeEffect_131 ?_
  obtain ⟨g_2, h⟩ := gd_el h
  obtain ⟨M_1, e_1, h⟩ := lt_el h
  refine r_iast X hP hS kq_126 g_2 e_1 dX9_takeEffect_132 (fun H locs hP hS => ?_)
  exact w_X9_takeEffect_133 X hK2 hP hS (lv_sub hl [0, 1, 2, 3] rfl) h
def f_X9_takeEffect_2 : Nat → Mem → Int32 → Int32 → Int32 → Option (Mem)
  | 0, _, _, _, _ => none
  | n + 1, M, v1, v2, v3 => if 40 ≤ v3 then (gd (inR v1 20) <| lt (sI M 138 v1.toNatClampNeg 1) fun M_1 => gd (inR (gI M_1 119 38) 20) <| lt (sI M_1 155 (gI M_1 119 38).toNatClampNeg v1) fun M_2 => lt (sI M_2 119 38 ((gI M_2 119 38) + 1)) fun M_3 => gd (inR v2 4) <| gd (inR v1 20) <| lt (sI M_3 147 v1.toNatClampNeg (gI M_3 170 v2.toNatClampNeg)) fun M_4 => f_X9_takeEffect_180 FU M_4 v1 v2 0) else (lt ((40 * v2) + v3) fun v_1 => gd (inR v_1 160) <| if (bI (gB M 163 v_1.toNatClampNeg)) = 0 then (f_X9_takeEffect_133 (f_X9_takeEffect_2 n) M v1 v2 v3) else (gd (inR v_1 160) <| gd (inR v3 40) <| lt (sI M 120 v3.toNatClampNeg (gI M 164 v_1.toNatClampNeg)) fun M_5 => gd (inR v_1 160) <| gd (inR v3 40) <| lt (sL M_5 121 v3.toNatClampNeg (gL M_5 165 v_1.toNatClampNeg)) fun M_6 => gd (inR v_1 160) <| gd (inR v3 40) <| lt (sI M_6 122 v3.toNatClampNeg (gI M_6 166 v_1.toNatClampNeg)) fun M_7 => gd (inR v_1 160) <| gd (inR v3 40) <| lt (sI M_7 123 v3.toNatClampNeg (gI M_7 167 v_1.toNatClampNeg)) fun M_8 => gd (inR v3 40) <| gd (inR v3 40) <| lt (sI M_8 124 v3.toNatClampNeg ((gI M_8 124 v3.toNatClampNeg) + 1)) fun M_9 => gd (inR v3 40) <| lt (sI M_9 125 v3.toNatClampNeg v1) fun M_10 => gd (inR v3 40) <| if 12 ≤ (gI M_10 126 v3.toNatClampNeg) then (f_X9_takeEffect_123 (f_X9_takeEffect_2 n) M_10 v1 v2 v3) else (gd (inR v3 40) <| gd (inR ((12 * v3) + (gI M_10 126 v3.toNatClampNeg)) 480) <| lt (sI M_10 127 ((12 * v3) + (gI M_10 126 v3.toNatClampNeg)).toNatClampNeg v1) fun M_11 => f_X9_takeEffect_123 (f_X9_takeEffect_2 n) M_11 v1 v2 v3)))
set_option maxRecDepth 100000 in
set_option maxHeartbeats 4000000 in
theorem w_X9_takeEffect_2 (X : Cx p s m args meth c cX9_takeEffect RX9 5 none G cy) {out : Mem} : ∀ n : Nat, ∀ (H : Heap) (locs : List Loc) (ls : Array Slot) (M : Mem) (v1 : Int32) (v2 : Int32) (v3 : Int32), Pic G B cy nT M H → va_S (FB B) s.heap H locs → lv_has ls 5 [(0, .ref (B + 119)), (1, .int v1), (2, .int v2), (3, .int v3)] → f_X9_takeEffect_2 n M v1 v2 v3 = some out → W p l e rmX9_takeEffect s m args below meth c H locs 0 0 (MQ below (Qv G B cy nT out) args s 0 0 (FB B)) (F0 m 2 ls []) := by
  obtain ⟨hx, hb, hr, hml, hown, hts, hKn, hlk⟩ := id X
  intro n
  induction n with
  | zero =>
    intro H locs ls M v1 v2 v3 hP hS hl h
    cases h
  | succ n ih =>
    intro H locs ls M v1 v2 v3 hP hS hl h
    rw [f_X9_takeEffect_2] at h
    refine lv_iload_n hx hb dX9_takeEffect_2 rfl (lv_at hl 3 rfl) ?_
    refine lv_bipush (v := 40) hx hb dX9_takeEffect_3 (by decide) ?_
    refine lv_icmp_ge (tgt := 139) hx hb dX9_takeEffect_5 (by decide) (fun hc => ?_) (fun hc => ?_)
    · replace h := if_elp h hc
      refine lv_aload_n hx hb dX9_takeEffect_139 rfl (lv_at hl 0 rfl) ?_
      refine gf_X9_65 X hP dX9_takeEffect_140 ?_
      refine lv_iload_n hx hb dX9_takeEffect_143 rfl (lv_at hl 1 rfl) ?_
      refine lv_iconst (v := 1) hx hb dX9_takeEffect_144 (by decide) ?_
      obtain ⟨g_1, h⟩ := gd_el h
      obtain ⟨M_1, e_1, h⟩ := lt_el h
      refine r_iast X hP hS kq_138 g_1 e_1 dX9_takeEffect_145 (fun H locs hP hS => ?_)
      refine lv_aload_n hx hb dX9_takeEffect_146 rfl (lv_at hl 0 rfl) ?_
      refine gf_X9_121 X hP dX9_takeEffect_147 ?_
      refine lv_aload_n hx hb dX9_takeEffect_150 rfl (lv_at hl 0 rfl) ?_
      refine gf_X9_365 X hP dX9_takeEffect_151 ?_
      refine lv_iload_n hx hb dX9_takeEffect_154 rfl (lv_at hl 1 rfl) ?_
      obtain ⟨g_2, h⟩ := gd_el h
      obtain ⟨M_2, e_2, h⟩ := lt_el h
      refine r_iast X hP hS kq_155 g_2 e_2 dX9_takeEffect_155 (fun H locs hP hS => ?_)
      refine lv_aload_n hx hb dX9_takeEffect_156 rfl (lv_at hl 0 rfl) ?_
      refine lv_dup hx hb dX9_takeEffect_157 rfl ?_
      refine gf_X9_365 X hP dX9_takeEffect_158 ?_
      refine lv_iconst (v := 1) hx hb dX9_takeEffect_161 (by decide) ?_
      refine lv_iadd hx hb dX9_takeEffect_162 ?_
      obtain ⟨M_3, e_3, h⟩ := lt_el h
      refine pf_X9_365 X hP hS e_3 dX9_takeEffect_163 (fun H locs hP hS => ?_)
      refine lv_aload_n hx hb dX9_takeEffect_166 rfl (lv_at hl 0 rfl) ?_
      refine gf_X9_92 X hP dX9_takeEffect_167 ?_
      refine lv_iload_n hx hb dX9_takeEffect_170 rfl (lv_at hl 1 rfl) ?_
      refine lv_aload_n hx hb dX9_takeEffect_171 rfl (lv_at hl 0 rfl) ?_
      refine gf_X9_166 X hP dX9_takeEffect_172 ?_
      refine lv_iload_n hx hb dX9_takeEffect_175 rfl (lv_at hl 2 rfl) ?_
      obtain ⟨g_3, h⟩ := gd_el h
      refine r_iald X hP kq_170 g_3 dX9_takeEffect_176 ?_
      obtain ⟨g_4, h⟩ := gd_el h
      obtain ⟨M_4, e_4, h⟩ := lt_el h
      refine r_iast X hP hS kq_147 g_4 e_4 dX9_takeEffect_177 (fun H locs hP hS => ?_)
      refine lv_iconst (v := 0) hx hb dX9_takeEffect_178 (by decide) ?_
      refine lv_istore_n (lv' := [(3, .int 0), (0, .ref (B + 119)), (1, .int v1), (2, .int v2)]) hx hb dX9_takeEffect_179 rfl hl (by decide) rfl (fun ls hl => ?_)
      exact w_X9_takeEffect_180 X FU _ _ _ _ _ _ _ hP hS (lv_sub hl [1, 2, 3, 0] rfl) h
    · replace h := if_eln h hc
      refine lv_bipush (v := 40) hx hb dX9_takeEffect_8 (by decide) ?_
      refine lv_iload_n hx hb dX9_takeEffect_10 rfl (lv_at hl 2 rfl) ?_
      refine lv_imul hx hb dX9_takeEffect_11 ?_
      refine lv_iload_n hx hb dX9_takeEffect_12 rfl (lv_at hl 3 rfl) ?_
      refine lv_iadd hx hb dX9_takeEffect_13 ?_
      obtain ⟨v_1, e_5, h⟩ := lt_el h
      refine r_topi e_5 ?_
      refine lv_istore (lv' := [(4, .int v_1), (0, .ref (B + 119)), (1, .int v1), (2, .int v2), (3, .int v3)]) hx hb dX9_takeEffect_14 hl (by decide) rfl (fun ls hl => ?_)
      refine lv_aload_n hx hb dX9_takeEffect_16 rfl (lv_at hl 1 rfl) ?_
      refine gf_X9_145 X hP dX9_takeEffect_17 ?_
      refine lv_iload hx hb dX9_takeEffect_20 (lv_at hl 0 rfl) ?_
      obtain ⟨g_5, h⟩ := gd_el h
      refine r_zald X hP kq_163 g_5 dX9_takeEffect_22 ?_
      refine lv_if_eq (tgt := 133) hx hb dX9_takeEffect_23 (by decide) (fun hc => ?_) (fun hc => ?_)
      · replace h := if_elp h hc
        exact w_X9_takeEffect_133 X ih hP hS (lv_sub hl [1, 2, 3, 4] rfl) h
      · replace h := if_eln h hc
        refine lv_aload_n hx hb dX9_takeEffect_26 rfl (lv_at hl 1 rfl) ?_
        refine gf_X9_7 X hP dX9_takeEffect_27 ?_
        refine lv_iload_n hx hb dX9_takeEffect_30 rfl (lv_at hl 4 rfl) ?_
        refine lv_aload_n hx hb dX9_takeEffect_31 rfl (lv_at hl 1 rfl) ?_
        refine gf_X9_148 X hP dX9_takeEffect_32 ?_
        refine lv_iload hx hb dX9_takeEffect_35 (lv_at hl 0 rfl) ?_
        obtain ⟨g_6, h⟩ := gd_el h
        refine r_iald X hP kq_164 g_6 dX9_takeEffect_37 ?_
        obtain ⟨g_7, h⟩ := gd_el h
        obtain ⟨M_5, e_6, h⟩ := lt_el h
        refine r_iast X hP hS kq_120 g_7 e_6 dX9_takeEffect_38 (fun H locs hP hS => ?_)
        refine lv_aload_n hx hb dX9_takeEffect_39 rfl (lv_at hl 1 rfl) ?_
        refine gf_X9_13 X hP dX9_takeEffect_40 ?_
        refine lv_iload_n hx hb dX9_takeEffect_43 rfl (lv_at hl 4 rfl) ?_
        refine lv_aload_n hx hb dX9_takeEffect_44 rfl (lv_at hl 1 rfl) ?_
        refine gf_X9_151 X hP dX9_takeEffect_45 ?_
        refine lv_iload hx hb dX9_takeEffect_48 (lv_at hl 0 rfl) ?_
        obtain ⟨g_8, h⟩ := gd_el h
        refine r_lald X hP kq_165 g_8 dX9_takeEffect_50 ?_
        obtain ⟨g_9, h⟩ := gd_el h
        obtain ⟨M_6, e_7, h⟩ := lt_el h
        refine r_last X hP hS kq_121 g_9 e_7 dX9_takeEffect_51 (fun H locs hP hS => ?_)
        refine lv_aload_n hx hb dX9_takeEffect_52 rfl (lv_at hl 1 rfl) ?_
        refine gf_X9_17 X hP dX9_takeEffect_53 ?_
        refine lv_iload_n hx hb dX9_takeEffect_56 rfl (lv_at hl 4 rfl) ?_
        refine lv_aload_n hx hb dX9_takeEffect_57 rfl (lv_at hl 1 rfl) ?_
        refine gf_X9_154 X hP dX9_takeEffect_58 ?_
        refine lv_iload hx hb dX9_takeEffect_61 (lv_at hl 0 rfl) ?_
        obtain ⟨g_10, h⟩ := gd_el h
        refine r_iald X hP kq_166 g_10 dX9_takeEffect_63 ?_
        obtain ⟨g_11, h⟩ := gd_el h
        obtain ⟨M_7, e_8, h⟩ := lt_el h
        refine r_iast X hP hS kq_122 g_11 e_8 dX9_takeEffect_64 (fun H locs hP hS => ?_)
        refine lv_aload_n hx hb dX9_takeEffect_65 rfl (lv_at hl 1 rfl) ?_
        refine gf_X9_20 X hP dX9_takeEffect_66 ?_
        refine lv_iload_n hx hb dX9_takeEffect_69 rfl (lv_at hl 4 rfl) ?_
        refine lv_aload_n hx hb dX9_takeEffect_70 rfl (lv_at hl 1 rfl) ?_
        refine gf_X9_157 X hP dX9_takeEffect_71 ?_
        refine lv_iload hx hb dX9_takeEffect_74 (lv_at hl 0 rfl) ?_
        obtain ⟨g_12, h⟩ := gd_el h
        refine r_iald X hP kq_167 g_12 dX9_takeEffect_76 ?_
        obtain ⟨g_13, h⟩ := gd_el h
        obtain ⟨M_8, e_9, h⟩ := lt_el h
        refine r_iast X hP hS kq_123 g_13 e_9 dX9_takeEffect_77 (fun H locs hP hS => ?_)
        refine lv_aload_n hx hb dX9_takeEffect_78 rfl (lv_at hl 1 rfl) ?_
        refine gf_X9_23 X hP dX9_takeEffect_79 ?_
        refine lv_iload_n hx hb dX9_takeEffect_82 rfl (lv_at hl 4 rfl) ?_
        refine lv_dup2_11 hx hb dX9_takeEffect_83 rfl rfl ?_
        obtain ⟨g_14, h⟩ := gd_el h
        refine r_iald X hP kq_124 g_14 dX9_takeEffect_84 ?_
        refine lv_iconst (v := 1) hx hb dX9_takeEffect_85 (by decide) ?_
        refine lv_iadd hx hb dX9_takeEffect_86 ?_
        obtain ⟨g_15, h⟩ := gd_el h
        obtain ⟨M_9, e_10, h⟩ := lt_el h
        refine r_iast X hP hS kq_124 g_15 e_10 dX9_takeEffect_87 (fun H locs hP hS => ?_)
        refine lv_aload_n hx hb dX9_takeEffect_88 rfl (lv_at hl 1 rfl) ?_
        refine gf_X9_26 X hP dX9_takeEffect_89 ?_
        refine lv_iload_n hx hb dX9_takeEffect_92 rfl (lv_at hl 4 rfl) ?_
        refine lv_iload_n hx hb dX9_takeEffect_93 rfl (lv_at hl 2 rfl) ?_
        obtain ⟨g_16, h⟩ := gd_el h
        obtain ⟨M_10, e_11, h⟩ := lt_el h
        refine r_iast X hP hS kq_125 g_16 e_11 dX9_takeEffect_94 (fun H locs hP hS => ?_)
        refine lv_aload_n hx hb dX9_takeEffect_95 rfl (lv_at hl 1 rfl) ?_
        refine gf_X9_29 X hP dX9_takeEffect_96 ?_
        refine lv_iload_n hx hb dX9_takeEffect_99 rfl (lv_at hl 4 rfl) ?_
        obtain ⟨g_17, h⟩ := gd_el h
        refine r_iald X hP kq_126 g_17 dX9_takeEffect_100 ?_
        refine lv_bipush (v := 12) hx hb dX9_takeEffect_101 (by decide) ?_
        refine lv_icmp_ge (tgt := 123) hx hb dX9_takeEffect_103 (by decide) (fun hc => ?_) (fun hc => ?_)
        · replace h := if_elp h hc
          exact w_X9_takeEffect_123 X ih hP hS (lv_sub hl [1, 2, 3, 4] rfl) h
        · replace h := if_eln h hc
          refine lv_aload_n hx hb dX9_takeEffect_106 rfl (lv_at hl 1 rfl) ?_
          refine gf_X9_32 X hP dX9_takeEffect_107 ?_
          refine lv_bipush (v := 12) hx hb dX9_takeEffect_110 (by decide) ?_
          refine lv_iload_n hx hb dX9_takeEffect_112 rfl (lv_at hl 4 rfl) ?_
          refine lv_imul hx hb dX9_takeEffect_113 ?_
          refine lv_aload_n hx hb dX9_takeEffect_114 rfl (lv_at hl 1 rfl) ?_
          refine gf_X9_29 X hP dX9_takeEffect_115 ?_
          refine lv_iload_n hx hb dX9_takeEffect_118 rfl (lv_at hl 4 rfl) ?_
          obtain ⟨g_18, h⟩ := gd_el h
          refine r_iald X hP kq_126 g_18 dX9_takeEffect_119 ?_
          refine lv_iadd hx hb dX9_takeEffect_120 ?_
          refine lv_iload_n hx hb dX9_takeEffect_121 rfl (lv_at hl 2 rfl) ?_
          obtain ⟨g_19, h⟩ := gd_el h
          obtain ⟨M_11, e_12, h⟩ := lt_el h
          refine r_iast X hP hS kq_127 g_19 e_12 dX9_takeEffect_122 (fun H locs hP hS => ?_)
          exact w_X9_takeEffect_123 X ih hP hS (lv_sub hl [1, 2, 3, 4] rfl) h
def f_X9_takeEffect (M : Mem) (a1 : Int32) (a2 : Int32) : Option (Mem) :=
  f_X9_takeEffect_2 FU M a1 a2 0
set_option maxRecDepth 100000 in
set_option maxHeartbeats 4000000 in
theorem c_X9_takeEffect {l : Launch} {G : va_G} {cy : Nat → ClassId} {B nT : Nat} {M : Mem} {a1 : Int32} {a2 : Int32} {out : Mem} (h : f_X9_takeEffect M a1 a2 = some out) : Met l yX9_takeEffect (wsU yX9_takeEffect cX9_takeEffect 5 none) rmX9_takeEffect (va_Pc [.ref (B + 119), .int a1, .int a2] (PU G B cy nT M)) (Qv G B cy nT out) 0 0 (FB B) := by
  refine r_met (by decide +kernel) RX9 rfl (Nat.le_of_ble_eq_true rfl) ?_
  intro p e s m args below meth c ls X hP hl
  have hl : lv_has ls 5 [(0, .ref (B + 119)), (1, .int a1), (2, .int a2)] := hl
  have hS : va_S (FB B) s.heap s.heap [] := va_S.rf
  obtain ⟨hx, hb, hr, hml, hown, hts, hKn, hlk⟩ := id X
  unfold f_X9_takeEffect at h
  refine lv_iconst (v := 0) hx hb dX9_takeEffect_0 (by decide) ?_
  refine lv_istore_n (lv' := [(3, .int 0), (0, .ref (B + 119)), (1, .int a1), (2, .int a2)]) hx hb dX9_takeEffect_1 rfl hl (by decide) rfl (fun ls hl => ?_)
  exact w_X9_takeEffect_2 X FU _ _ _ _ _ _ _ hP hS (lv_sub hl [1, 2, 3, 0] rfl) h
end METHS

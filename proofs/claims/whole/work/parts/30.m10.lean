section METHS
variable {p : Program} {l : Launch} {e : Env} {s : State} {m : MethodId} {args : Array Value} {below : List Frame} {meth : Method} {c : Code} {H : Heap} {locs : List Loc} {G : va_G} {cy : Nat → ClassId} {B nT : Nat} {ls : Array Slot}
abbrev rmX9_turn : Room := { frames := 6, cells := 0, slots := 0, locals := 142 }
def f_X9_turn_163 (M : Mem) (s0 : Int32) (s1 : Int32) : Option (Mem) :=
  gd (inR s1 20) <| lt (sI M 138 s1.toNatClampNeg s0) fun M_1 => some M_1
set_option maxRecDepth 100000 in
set_option maxHeartbeats 4000000 in
theorem w_X9_turn_163 (X : Cx p s m args meth c cX9_turn RX9 5 none G cy) {out : Mem} {M : Mem} {s0 : Int32} {s1 : Int32} (hP : Pic G B cy nT M H) (hS : va_S (FB B) s.heap H locs) (hl : lv_has ls 5 []) (h : f_X9_turn_163 M s0 s1 = some out) : W p l e rmX9_turn s m args below meth c H locs 0 0 (MQ below (Qv G B cy nT out) args s 0 0 (FB B)) (F0 m 163 ls [.int s0, .int s1, .ref (B + 138)]) := by
  obtain ⟨hx, hb, hr, hml, hown, hts, hKn, hlk⟩ := id X
  unfold f_X9_turn_163 at h
  obtain ⟨g_1, h⟩ := gd_el h
  obtain ⟨M_1, e_1, h⟩ := lt_el h
  refine r_iast X hP hS kq_138 g_1 e_1 dX9_turn_163 (fun H locs hP hS => ?_)
  refine lv_goto (tgt := 204) hx hb dX9_turn_164 (by decide) ?_
  exact r_vret X hP hS (pr0 h) dX9_turn_204
def f_X9_turn_63 (M : Mem) (v1 : Int32) (v2 : Int32) (v3 : Int32) : Option (Mem) :=
  if v3 ≤ 2 then (Option.bind (f_X9_counts M v1 v2) fun r_1 => gd (inR v2 4) <| if (gI r_1 159 v2.toNatClampNeg) = 1 then (gd (inR v1 20) <| lt (sI r_1 138 v1.toNatClampNeg 2) fun M_3 => gd (inR v2 4) <| gd (inR v1 20) <| lt (sI M_3 141 v1.toNatClampNeg (gI M_3 160 v2.toNatClampNeg)) fun M_4 => gd (inR v2 4) <| gd (inR v1 20) <| lt (sI M_4 142 v1.toNatClampNeg (gI M_4 161 v2.toNatClampNeg)) fun M_5 => some M_5) else (gd (inR v2 4) <| if (gI r_1 159 v2.toNatClampNeg) = 2 then (gd (inR v1 20) <| if (gI r_1 139 v1.toNatClampNeg) < 5 then (f_X9_turn_163 r_1 3 v1) else (f_X9_turn_163 r_1 5 v1)) else (Option.bind (f_X9_breaks r_1 v2) fun r_2 => if r_2.1 = (-1) then (Option.bind (f_X9_takeEffect r_2.2 v1 v2) fun r_3 => some r_3) else (gd (inR v1 20) <| lt (sI r_2.2 138 v1.toNatClampNeg 4) fun M_1 => gd (inR v1 20) <| lt (sI M_1 143 v1.toNatClampNeg r_2.1) fun M_2 => some M_2)))) else (gd (inR v1 20) <| lt (sI M 138 v1.toNatClampNeg 5) fun M_6 => gd (inR v1 20) <| lt (sB M_6 148 v1.toNatClampNeg (iB 0)) fun M_7 => some M_7)
set_option maxRecDepth 100000 in
set_option maxHeartbeats 4000000 in
theorem w_X9_turn_63 (X : Cx p s m args meth c cX9_turn RX9 5 none G cy) {out : Mem} {M : Mem} {v1 : Int32} {v2 : Int32} {v3 : Int32} (hP : Pic G B cy nT M H) (hS : va_S (FB B) s.heap H locs) (hl : lv_has ls 5 [(0, .ref (B + 119)), (1, .int v1), (2, .int v2), (3, .int v3)]) (h : f_X9_turn_63 M v1 v2 v3 = some out) : W p l e rmX9_turn s m args below meth c H locs 0 0 (MQ below (Qv G B cy nT out) args s 0 0 (FB B)) (F0 m 63 ls []) := by
  obtain ⟨hx, hb, hr, hml, hown, hts, hKn, hlk⟩ := id X
  unfold f_X9_turn_63 at h
  refine lv_iload_n hx hb dX9_turn_63 rfl (lv_at hl 3 rfl) ?_
  refine lv_iconst (v := 2) hx hb dX9_turn_64 (by decide) ?_
  refine lv_icmp_le (tgt := 83) hx hb dX9_turn_65 (by decide) (fun hc => ?_) (fun hc => ?_)
  · replace h := if_elp h hc
    refine lv_aload_n hx hb dX9_turn_83 rfl (lv_at hl 0 rfl) ?_
    refine lv_iload_n hx hb dX9_turn_84 rfl (lv_at hl 1 rfl) ?_
    refine lv_iload_n hx hb dX9_turn_85 rfl (lv_at hl 2 rfl) ?_
    obtain ⟨r_1, h_1, h⟩ := bd_el h
    refine cl_v (rn_V (C := RX9) (ci := 9) X hP (c_X9_counts h_1) kq_119 rfl k_803 k_804 k_930 k_9 k_805 rfl hd_X9_counts (n := 2) ⟨⟨rfl, rfl⟩, Nat.le_of_ble_eq_true rfl, Nat.le_of_ble_eq_true rfl⟩ (As := [.int v1, .int v2]) (rest := []) rfl hl.1 rfl (Nat.le_of_ble_eq_true rfl) dX9_turn_86 ⟨Nat.zero_le _, Nat.zero_le _⟩) hS (fun H locs hP hS => ?_)
    refine lv_aload_n hx hb dX9_turn_89 rfl (lv_at hl 0 rfl) ?_
    refine gf_X9_133 X hP dX9_turn_90 ?_
    refine lv_iload_n hx hb dX9_turn_93 rfl (lv_at hl 2 rfl) ?_
    obtain ⟨g_1, h⟩ := gd_el h
    refine r_iald X hP kq_159 g_1 dX9_turn_94 ?_
    refine lv_iconst (v := 1) hx hb dX9_turn_95 (by decide) ?_
    refine lv_icmp_ne (tgt := 133) hx hb dX9_turn_96 (by decide) (fun hc => ?_) (fun hc => ?_)
    · replace h := if_eln h hc
      refine lv_aload_n hx hb dX9_turn_133 rfl (lv_at hl 0 rfl) ?_
      refine gf_X9_133 X hP dX9_turn_134 ?_
      refine lv_iload_n hx hb dX9_turn_137 rfl (lv_at hl 2 rfl) ?_
      obtain ⟨g_2, h⟩ := gd_el h
      refine r_iald X hP kq_159 g_2 dX9_turn_138 ?_
      refine lv_iconst (v := 2) hx hb dX9_turn_139 (by decide) ?_
      refine lv_icmp_ne (tgt := 167) hx hb dX9_turn_140 (by decide) (fun hc => ?_) (fun hc => ?_)
      · replace h := if_eln h hc
        refine lv_aload_n hx hb dX9_turn_167 rfl (lv_at hl 0 rfl) ?_
        refine lv_iload_n hx hb dX9_turn_168 rfl (lv_at hl 2 rfl) ?_
        obtain ⟨r_2, h_2, h⟩ := bd_el h
        refine cl_i (rn_V (C := RX9) (ci := 9) X hP (c_X9_breaks h_2) kq_119 rfl k_806 k_807 k_931 k_9 k_808 rfl hd_X9_breaks (n := 1) ⟨⟨rfl, rfl⟩, Nat.le_of_ble_eq_true rfl, Nat.le_of_ble_eq_true rfl⟩ (As := [.int v2]) (rest := []) rfl hl.1 rfl (Nat.le_of_ble_eq_true rfl) dX9_turn_169 ⟨Nat.zero_le _, Nat.zero_le _⟩) hS (fun H locs hP hS => ?_)
        refine lv_istore (lv' := [(4, .int r_2.1), (0, .ref (B + 119)), (1, .int v1), (2, .int v2), (3, .int v3)]) hx hb dX9_turn_172 hl (by decide) rfl (fun ls hl => ?_)
        refine lv_iload hx hb dX9_turn_174 (lv_at hl 0 rfl) ?_
        refine lv_iconst (v := (-1)) hx hb dX9_turn_176 (by decide) ?_
        refine lv_icmp_ne (tgt := 189) hx hb dX9_turn_177 (by decide) (fun hc => ?_) (fun hc => ?_)
        · replace h := if_eln h hc
          refine lv_aload_n hx hb dX9_turn_189 rfl (lv_at hl 1 rfl) ?_
          refine gf_X9_65 X hP dX9_turn_190 ?_
          refine lv_iload_n hx hb dX9_turn_193 rfl (lv_at hl 2 rfl) ?_
          refine lv_iconst (v := 4) hx hb dX9_turn_194 (by decide) ?_
          obtain ⟨g_3, h⟩ := gd_el h
          obtain ⟨M_1, e_1, h⟩ := lt_el h
          refine r_iast X hP hS kq_138 g_3 e_1 dX9_turn_195 (fun H locs hP hS => ?_)
          refine lv_aload_n hx hb dX9_turn_196 rfl (lv_at hl 1 rfl) ?_
          refine gf_X9_80 X hP dX9_turn_197 ?_
          refine lv_iload_n hx hb dX9_turn_200 rfl (lv_at hl 2 rfl) ?_
          refine lv_iload hx hb dX9_turn_201 (lv_at hl 0 rfl) ?_
          obtain ⟨g_4, h⟩ := gd_el h
          obtain ⟨M_2, e_2, h⟩ := lt_el h
          refine r_iast X hP hS kq_143 g_4 e_2 dX9_turn_203 (fun H locs hP hS => ?_)
          exact r_vret X hP hS (pr0 h) dX9_turn_204
        · replace h := if_elp h hc
          refine lv_aload_n hx hb dX9_turn_180 rfl (lv_at hl 1 rfl) ?_
          refine lv_iload_n hx hb dX9_turn_181 rfl (lv_at hl 2 rfl) ?_
          refine lv_iload_n hx hb dX9_turn_182 rfl (lv_at hl 3 rfl) ?_
          obtain ⟨r_3, h_3, h⟩ := bd_el h
          refine cl_v (rn_V (C := RX9) (ci := 9) X hP (c_X9_takeEffect h_3) kq_119 rfl k_812 k_813 k_933 k_9 k_814 rfl hd_X9_takeEffect (n := 2) ⟨⟨rfl, rfl⟩, Nat.le_of_ble_eq_true rfl, Nat.le_of_ble_eq_true rfl⟩ (As := [.int v1, .int v2]) (rest := []) rfl hl.1 rfl (Nat.le_of_ble_eq_true rfl) dX9_turn_183 ⟨Nat.zero_le _, Nat.zero_le _⟩) hS (fun H locs hP hS => ?_)
          refine lv_goto (tgt := 204) hx hb dX9_turn_186 (by decide) ?_
          exact r_vret X hP hS (pr0 h) dX9_turn_204
      · replace h := if_elp h hc
        refine lv_aload_n hx hb dX9_turn_143 rfl (lv_at hl 0 rfl) ?_
        refine gf_X9_65 X hP dX9_turn_144 ?_
        refine lv_iload_n hx hb dX9_turn_147 rfl (lv_at hl 1 rfl) ?_
        refine lv_aload_n hx hb dX9_turn_148 rfl (lv_at hl 0 rfl) ?_
        refine gf_X9_68 X hP dX9_turn_149 ?_
        refine lv_iload_n hx hb dX9_turn_152 rfl (lv_at hl 1 rfl) ?_
        obtain ⟨g_5, h⟩ := gd_el h
        refine r_iald X hP kq_139 g_5 dX9_turn_153 ?_
        refine lv_iconst (v := 5) hx hb dX9_turn_154 (by decide) ?_
        refine lv_icmp_lt (tgt := 162) hx hb dX9_turn_155 (by decide) (fun hc => ?_) (fun hc => ?_)
        · replace h := if_elp h hc
          refine lv_iconst (v := 3) hx hb dX9_turn_162 (by decide) ?_
          exact w_X9_turn_163 X hP hS (lv_sub hl [] rfl) h
        · replace h := if_eln h hc
          refine lv_iconst (v := 5) hx hb dX9_turn_158 (by decide) ?_
          refine lv_goto (tgt := 163) hx hb dX9_turn_159 (by decide) ?_
          exact w_X9_turn_163 X hP hS (lv_sub hl [] rfl) h
    · replace h := if_elp h hc
      refine lv_aload_n hx hb dX9_turn_99 rfl (lv_at hl 0 rfl) ?_
      refine gf_X9_65 X hP dX9_turn_100 ?_
      refine lv_iload_n hx hb dX9_turn_103 rfl (lv_at hl 1 rfl) ?_
      refine lv_iconst (v := 2) hx hb dX9_turn_104 (by decide) ?_
      obtain ⟨g_6, h⟩ := gd_el h
      obtain ⟨M_3, e_3, h⟩ := lt_el h
      refine r_iast X hP hS kq_138 g_6 e_3 dX9_turn_105 (fun H locs hP hS => ?_)
      refine lv_aload_n hx hb dX9_turn_106 rfl (lv_at hl 0 rfl) ?_
      refine gf_X9_74 X hP dX9_turn_107 ?_
      refine lv_iload_n hx hb dX9_turn_110 rfl (lv_at hl 1 rfl) ?_
      refine lv_aload_n hx hb dX9_turn_111 rfl (lv_at hl 0 rfl) ?_
      refine gf_X9_136 X hP dX9_turn_112 ?_
      refine lv_iload_n hx hb dX9_turn_115 rfl (lv_at hl 2 rfl) ?_
      obtain ⟨g_7, h⟩ := gd_el h
      refine r_iald X hP kq_160 g_7 dX9_turn_116 ?_
      obtain ⟨g_8, h⟩ := gd_el h
      obtain ⟨M_4, e_4, h⟩ := lt_el h
      refine r_iast X hP hS kq_141 g_8 e_4 dX9_turn_117 (fun H locs hP hS => ?_)
      refine lv_aload_n hx hb dX9_turn_118 rfl (lv_at hl 0 rfl) ?_
      refine gf_X9_77 X hP dX9_turn_119 ?_
      refine lv_iload_n hx hb dX9_turn_122 rfl (lv_at hl 1 rfl) ?_
      refine lv_aload_n hx hb dX9_turn_123 rfl (lv_at hl 0 rfl) ?_
      refine gf_X9_139 X hP dX9_turn_124 ?_
      refine lv_iload_n hx hb dX9_turn_127 rfl (lv_at hl 2 rfl) ?_
      obtain ⟨g_9, h⟩ := gd_el h
      refine r_iald X hP kq_161 g_9 dX9_turn_128 ?_
      obtain ⟨g_10, h⟩ := gd_el h
      obtain ⟨M_5, e_5, h⟩ := lt_el h
      refine r_iast X hP hS kq_142 g_10 e_5 dX9_turn_129 (fun H locs hP hS => ?_)
      refine lv_goto (tgt := 204) hx hb dX9_turn_130 (by decide) ?_
      exact r_vret X hP hS (pr0 h) dX9_turn_204
  · replace h := if_eln h hc
    refine lv_aload_n hx hb dX9_turn_68 rfl (lv_at hl 0 rfl) ?_
    refine gf_X9_65 X hP dX9_turn_69 ?_
    refine lv_iload_n hx hb dX9_turn_72 rfl (lv_at hl 1 rfl) ?_
    refine lv_iconst (v := 5) hx hb dX9_turn_73 (by decide) ?_
    obtain ⟨g_11, h⟩ := gd_el h
    obtain ⟨M_6, e_6, h⟩ := lt_el h
    refine r_iast X hP hS kq_138 g_11 e_6 dX9_turn_74 (fun H locs hP hS => ?_)
    refine lv_aload_n hx hb dX9_turn_75 rfl (lv_at hl 0 rfl) ?_
    refine gf_X9_95 X hP dX9_turn_76 ?_
    refine lv_iload_n hx hb dX9_turn_79 rfl (lv_at hl 1 rfl) ?_
    refine lv_iconst (v := 0) hx hb dX9_turn_80 (by decide) ?_
    obtain ⟨g_12, h⟩ := gd_el h
    obtain ⟨M_7, e_7, h⟩ := lt_el h
    refine r_zast X hP hS kq_148 g_12 e_7 dX9_turn_81 (fun H locs hP hS => ?_)
    exact r_vret X hP hS (pr0 h) dX9_turn_82
def f_X9_turn_39 : Nat → Mem → Int32 → Int32 → Int32 → Int32 → Option (Mem)
  | 0, _, _, _, _, _ => none
  | n + 1, M, v1, v2, v3, v4 => if v3 ≤ v4 then (f_X9_turn_63 M v1 v2 v3) else (if 2 ≤ v4 then (f_X9_turn_63 M v1 v2 v3) else (Option.bind (f_X9_attempt M v1 v2) fun r_1 => lt (v4 + 1) fun v_1 => (f_X9_turn_39 n) r_1 v1 v2 v3 v_1))
set_option maxRecDepth 100000 in
set_option maxHeartbeats 4000000 in
theorem w_X9_turn_39 (X : Cx p s m args meth c cX9_turn RX9 5 none G cy) {out : Mem} : ∀ n : Nat, ∀ (H : Heap) (locs : List Loc) (ls : Array Slot) (M : Mem) (v1 : Int32) (v2 : Int32) (v3 : Int32) (v4 : Int32), Pic G B cy nT M H → va_S (FB B) s.heap H locs → lv_has ls 5 [(0, .ref (B + 119)), (1, .int v1), (2, .int v2), (3, .int v3), (4, .int v4)] → f_X9_turn_39 n M v1 v2 v3 v4 = some out → W p l e rmX9_turn s m args below meth c H locs 0 0 (MQ below (Qv G B cy nT out) args s 0 0 (FB B)) (F0 m 39 ls []) := by
  obtain ⟨hx, hb, hr, hml, hown, hts, hKn, hlk⟩ := id X
  intro n
  induction n with
  | zero =>
    intro H locs ls M v1 v2 v3 v4 hP hS hl h
    cases h
  | succ n ih =>
    intro H locs ls M v1 v2 v3 v4 hP hS hl h
    rw [f_X9_turn_39] at h
    refine lv_iload hx hb dX9_turn_39 (lv_at hl 4 rfl) ?_
    refine lv_iload_n hx hb dX9_turn_41 rfl (lv_at hl 3 rfl) ?_
    refine lv_icmp_ge (tgt := 63) hx hb dX9_turn_42 (by decide) (fun hc => ?_) (fun hc => ?_)
    · replace h := if_elp h hc
      exact w_X9_turn_63 X hP hS (lv_sub hl [0, 1, 2, 3] rfl) h
    · replace h := if_eln h hc
      refine lv_iload hx hb dX9_turn_45 (lv_at hl 4 rfl) ?_
      refine lv_iconst (v := 2) hx hb dX9_turn_47 (by decide) ?_
      refine lv_icmp_ge (tgt := 63) hx hb dX9_turn_48 (by decide) (fun hc => ?_) (fun hc => ?_)
      · replace h := if_elp h hc
        exact w_X9_turn_63 X hP hS (lv_sub hl [0, 1, 2, 3] rfl) h
      · replace h := if_eln h hc
        refine lv_aload_n hx hb dX9_turn_51 rfl (lv_at hl 0 rfl) ?_
        refine lv_iload_n hx hb dX9_turn_52 rfl (lv_at hl 1 rfl) ?_
        refine lv_iload_n hx hb dX9_turn_53 rfl (lv_at hl 2 rfl) ?_
        obtain ⟨r_1, h_1, h⟩ := bd_el h
        refine cl_v (rn_V (C := RX9) (ci := 9) X hP (c_X9_attempt h_1) kq_119 rfl k_730 k_731 k_909 k_9 k_732 rfl hd_X9_attempt (n := 2) ⟨⟨rfl, rfl⟩, Nat.le_of_ble_eq_true rfl, Nat.le_of_ble_eq_true rfl⟩ (As := [.int v1, .int v2]) (rest := []) rfl hl.1 rfl (Nat.le_of_ble_eq_true rfl) dX9_turn_54 ⟨Nat.zero_le _, Nat.zero_le _⟩) hS (fun H locs hP hS => ?_)
        obtain ⟨v_1, e_1, h⟩ := lt_el h
        refine lv_iinc (v := v_1) (lv' := [(4, .int v_1), (0, .ref (B + 119)), (1, .int v1), (2, .int v2), (3, .int v3)]) hx hb dX9_turn_57 hl (k := 4) rfl (by rw [e_1]; rfl) (by decide) rfl (fun ls hl => ?_)
        refine lv_goto (tgt := 39) hx hb dX9_turn_60 (by decide) ?_
        exact ih _ _ _ _ _ _ _ _ hP hS (lv_sub hl [1, 2, 3, 4, 0] rfl) h
def f_X9_turn_24 (M : Mem) (v1 : Int32) (v2 : Int32) : Option (Mem) :=
  gd (inR v1 20) <| gd (inR (gI M 137 v1.toNatClampNeg) 16) <| lt (gI M 132 (gI M 137 v1.toNatClampNeg).toNatClampNeg) fun v_1 => f_X9_turn_39 FU M v1 v2 v_1 0
set_option maxRecDepth 100000 in
set_option maxHeartbeats 4000000 in
theorem w_X9_turn_24 (X : Cx p s m args meth c cX9_turn RX9 5 none G cy) {out : Mem} {M : Mem} {v1 : Int32} {v2 : Int32} (hP : Pic G B cy nT M H) (hS : va_S (FB B) s.heap H locs) (hl : lv_has ls 5 [(0, .ref (B + 119)), (1, .int v1), (2, .int v2)]) (h : f_X9_turn_24 M v1 v2 = some out) : W p l e rmX9_turn s m args below meth c H locs 0 0 (MQ below (Qv G B cy nT out) args s 0 0 (FB B)) (F0 m 24 ls []) := by
  obtain ⟨hx, hb, hr, hml, hown, hts, hKn, hlk⟩ := id X
  unfold f_X9_turn_24 at h
  refine lv_aload_n hx hb dX9_turn_24 rfl (lv_at hl 0 rfl) ?_
  refine gf_X9_47 X hP dX9_turn_25 ?_
  refine lv_aload_n hx hb dX9_turn_28 rfl (lv_at hl 0 rfl) ?_
  refine gf_X9_62 X hP dX9_turn_29 ?_
  refine lv_iload_n hx hb dX9_turn_32 rfl (lv_at hl 1 rfl) ?_
  obtain ⟨g_1, h⟩ := gd_el h
  refine r_iald X hP kq_137 g_1 dX9_turn_33 ?_
  obtain ⟨g_2, h⟩ := gd_el h
  refine r_iald X hP kq_132 g_2 dX9_turn_34 ?_
  obtain ⟨v_1, e_1, h⟩ := lt_el h
  refine r_topi e_1 ?_
  refine lv_istore_n (lv' := [(3, .int v_1), (0, .ref (B + 119)), (1, .int v1), (2, .int v2)]) hx hb dX9_turn_35 rfl hl (by decide) rfl (fun ls hl => ?_)
  refine lv_iconst (v := 0) hx hb dX9_turn_36 (by decide) ?_
  refine lv_istore (lv' := [(4, .int 0), (3, .int v_1), (0, .ref (B + 119)), (1, .int v1), (2, .int v2)]) hx hb dX9_turn_37 hl (by decide) rfl (fun ls hl => ?_)
  exact w_X9_turn_39 X FU _ _ _ _ _ _ _ _ hP hS (lv_sub hl [2, 3, 4, 1, 0] rfl) h
def f_X9_turn (M : Mem) (a1 : Int32) (a2 : Int32) : Option (Mem) :=
  gd (inR a1 20) <| gd (inR a1 20) <| lt (sI M 139 a1.toNatClampNeg ((gI M 139 a1.toNatClampNeg) + 1)) fun M_1 => Option.bind (f_X9_isStale M_1 a2) fun r_1 => if (bI r_1) = 0 then (f_X9_turn_24 M_1 a1 a2) else (Option.bind (f_X9_attempt M_1 a1 a2) fun r_2 => f_X9_turn_24 r_2 a1 a2)
set_option maxRecDepth 100000 in
set_option maxHeartbeats 4000000 in
theorem c_X9_turn {l : Launch} {G : va_G} {cy : Nat → ClassId} {B nT : Nat} {M : Mem} {a1 : Int32} {a2 : Int32} {out : Mem} (h : f_X9_turn M a1 a2 = some out) : Met l yX9_turn (wsU yX9_turn cX9_turn 5 none) rmX9_turn (va_Pc [.ref (B + 119), .int a1, .int a2] (PU G B cy nT M)) (Qv G B cy nT out) 0 0 (FB B) := by
  refine r_met (by decide +kernel) RX9 rfl (Nat.le_of_ble_eq_true rfl) ?_
  intro p e s m args below meth c ls X hP hl
  have hl : lv_has ls 5 [(0, .ref (B + 119)), (1, .int a1), (2, .int a2)] := hl
  have hS : va_S (FB B) s.heap s.heap [] := va_S.rf
  obtain ⟨hx, hb, hr, hml, hown, hts, hKn, hlk⟩ := id X
  unfold f_X9_turn at h
  refine lv_aload_n hx hb dX9_turn_0 rfl (lv_at hl 0 rfl) ?_
  refine gf_X9_68 X hP dX9_turn_1 ?_
  refine lv_iload_n hx hb dX9_turn_4 rfl (lv_at hl 1 rfl) ?_
  refine lv_dup2_11 hx hb dX9_turn_5 rfl rfl ?_
  obtain ⟨g_1, h⟩ := gd_el h
  refine r_iald X hP kq_139 g_1 dX9_turn_6 ?_
  refine lv_iconst (v := 1) hx hb dX9_turn_7 (by decide) ?_
  refine lv_iadd hx hb dX9_turn_8 ?_
  obtain ⟨g_2, h⟩ := gd_el h
  obtain ⟨M_1, e_1, h⟩ := lt_el h
  refine r_iast X hP hS kq_139 g_2 e_1 dX9_turn_9 (fun H locs hP hS => ?_)
  refine lv_aload_n hx hb dX9_turn_10 rfl (lv_at hl 0 rfl) ?_
  refine lv_iload_n hx hb dX9_turn_11 rfl (lv_at hl 2 rfl) ?_
  obtain ⟨r_1, h_1, h⟩ := bd_el h
  refine cl_i (rn_V (C := RX9) (ci := 9) X hP (c_X9_isStale h_1) kq_119 rfl k_800 k_801 k_929 k_9 k_802 rfl hd_X9_isStale (n := 1) ⟨⟨rfl, rfl⟩, Nat.le_of_ble_eq_true rfl, Nat.le_of_ble_eq_true rfl⟩ (As := [.int a2]) (rest := []) rfl hl.1 rfl (Nat.le_of_ble_eq_true rfl) dX9_turn_12 ⟨Nat.zero_le _, Nat.zero_le _⟩) hS (fun H locs hP hS => ?_)
  refine lv_if_eq (tgt := 24) hx hb dX9_turn_15 (by decide) (fun hc => ?_) (fun hc => ?_)
  · replace h := if_elp h hc
    exact w_X9_turn_24 X hP hS (lv_sub hl [0, 1, 2] rfl) h
  · replace h := if_eln h hc
    refine lv_aload_n hx hb dX9_turn_18 rfl (lv_at hl 0 rfl) ?_
    refine lv_iload_n hx hb dX9_turn_19 rfl (lv_at hl 1 rfl) ?_
    refine lv_iload_n hx hb dX9_turn_20 rfl (lv_at hl 2 rfl) ?_
    obtain ⟨r_2, h_2, h⟩ := bd_el h
    refine cl_v (rn_V (C := RX9) (ci := 9) X hP (c_X9_attempt h_2) kq_119 rfl k_730 k_731 k_909 k_9 k_732 rfl hd_X9_attempt (n := 2) ⟨⟨rfl, rfl⟩, Nat.le_of_ble_eq_true rfl, Nat.le_of_ble_eq_true rfl⟩ (As := [.int a1, .int a2]) (rest := []) rfl hl.1 rfl (Nat.le_of_ble_eq_true rfl) dX9_turn_21 ⟨Nat.zero_le _, Nat.zero_le _⟩) hS (fun H locs hP hS => ?_)
    exact w_X9_turn_24 X hP hS (lv_sub hl [0, 1, 2] rfl) h
abbrev rmX9_isOver : Room := { frames := 0, cells := 0, slots := 0, locals := 0 }
def f_X9_isOver_66 (M : Mem) (K2 : Int32 → Int32 → Option (Bool)) (v1 : Int32) (v2 : Int32) : Option (Bool) :=
  lt (v2 + 1) fun v_1 => K2 v1 v_1
set_option maxRecDepth 100000 in
set_option maxHeartbeats 4000000 in
theorem w_X9_isOver_66 (X : Cx p s m args meth c cX9_isOver RX9 5 (some .boolean) G cy) {M : Mem} {out : Bool} {K2 : Int32 → Int32 → Option (Bool)} (hK2 : ∀ (H : Heap) (locs : List Loc) (ls : Array Slot) (v1 : Int32) (v2 : Int32), Pic G B cy nT M H → va_S (FB B) s.heap H locs → lv_has ls 5 [(0, .ref (B + 119)), (1, .int v1), (2, .int v2)] → K2 v1 v2 = some out → W p l e rmX9_isOver s m args below meth c H locs 0 0 (MQ below (Qi G B cy nT (bI out) M) args s 0 0 (FB B)) (F0 m 2 ls [])) {v1 : Int32} {v2 : Int32} (hP : Pic G B cy nT M H) (hS : va_S (FB B) s.heap H locs) (hl : lv_has ls 5 [(0, .ref (B + 119)), (1, .int v1), (2, .int v2)]) (h : f_X9_isOver_66 M K2 v1 v2 = some out) : W p l e rmX9_isOver s m args below meth c H locs 0 0 (MQ below (Qi G B cy nT (bI out) M) args s 0 0 (FB B)) (F0 m 66 ls []) := by
  obtain ⟨hx, hb, hr, hml, hown, hts, hKn, hlk⟩ := id X
  unfold f_X9_isOver_66 at h
  obtain ⟨v_1, e_1, h⟩ := lt_el h
  refine lv_iinc (v := v_1) (lv' := [(2, .int v_1), (0, .ref (B + 119)), (1, .int v1)]) hx hb dX9_isOver_66 hl (k := 2) rfl (by rw [e_1]; rfl) (by decide) rfl (fun ls hl => ?_)
  refine lv_goto (tgt := 2) hx hb dX9_isOver_69 (by decide) ?_
  exact hK2 _ _ _ _ _ hP hS (lv_sub hl [1, 2, 0] rfl) h
def f_X9_isOver_52 (M : Mem) (K2 : Int32 → Int32 → Option (Bool)) (K26 : Int32 → Int32 → Int32 → Int32 → Option (Bool)) (v1 : Int32) (v2 : Int32) (v4 : Int32) (s0 : Int32) (s1 : Int32) : Option (Bool) :=
  lt (s1 ||| s0) fun v_1 => lt (v4 + 1) fun v_2 => K26 v1 v2 v_1 v_2
set_option maxRecDepth 100000 in
set_option maxHeartbeats 4000000 in
theorem w_X9_isOver_52 (X : Cx p s m args meth c cX9_isOver RX9 5 (some .boolean) G cy) {M : Mem} {out : Bool} {K2 : Int32 → Int32 → Option (Bool)} {K26 : Int32 → Int32 → Int32 → Int32 → Option (Bool)} (hK2 : ∀ (H : Heap) (locs : List Loc) (ls : Array Slot) (v1 : Int32) (v2 : Int32), Pic G B cy nT M H → va_S (FB B) s.heap H locs → lv_has ls 5 [(0, .ref (B + 119)), (1, .int v1), (2, .int v2)] → K2 v1 v2 = some out → W p l e rmX9_isOver s m args below meth c H locs 0 0 (MQ below (Qi G B cy nT (bI out) M) args s 0 0 (FB B)) (F0 m 2 ls [])) (hK26 : ∀ (H : Heap) (locs : List Loc) (ls : Array Slot) (v1 : Int32) (v2 : Int32) (v3 : Int32) (v4 : Int32), Pic G B cy nT M H → va_S (FB B) s.heap H locs → lv_has ls 5 [(0, .ref (B + 119)), (1, .int v1), (2, .int v2), (3, .int v3), (4, .int v4)] → K26 v1 v2 v3 v4 = some out → W p l e rmX9_isOver s m args below meth c H locs 0 0 (MQ below (Qi G B cy nT (bI out) M) args s 0 0 (FB B)) (F0 m 26 ls [])) {v1 : Int32} {v2 : Int32} {v4 : Int32} {s0 : Int32} {s1 : Int32} (hP : Pic G B cy nT M H) (hS : va_S (FB B) s.heap H locs) (hl : lv_has ls 5 [(0, .ref (B + 119)), (1, .int v1), (2, .int v2), (4, .int v4)]) (h : f_X9_isOver_52 M K2 K26 v1 v2 v4 s0 s1 = some out) : W p l e rmX9_isOver s m args below meth c H locs 0 0 (MQ below (Qi G B cy nT (bI out) M) args s 0 0 (FB B)) (F0 m 52 ls [.int s0, .int s1]) := by
  obtain ⟨hx, hb, hr, hml, hown, hts, hKn, hlk⟩ := id X
  unfold f_X9_isOver_52 at h
  refine lv_ior hx hb dX9_isOver_52 ?_
  obtain ⟨v_1, e_1, h⟩ := lt_el h
  refine r_topi e_1 ?_
  refine lv_istore_n (lv' := [(3, .int v_1), (0, .ref (B + 119)), (1, .int v1), (2, .int v2), (4, .int v4)]) hx hb dX9_isOver_53 rfl hl (by decide) rfl (fun ls hl => ?_)
  obtain ⟨v_2, e_2, h⟩ := lt_el h
  refine lv_iinc (v := v_2) (lv' := [(4, .int v_2), (3, .int v_1), (0, .ref (B + 119)), (1, .int v1), (2, .int v2)]) hx hb dX9_isOver_54 hl (k := 4) rfl (by rw [e_2]; rfl) (by decide) rfl (fun ls hl => ?_)
  refine lv_goto (tgt := 26) hx hb dX9_isOver_57 (by decide) ?_
  exact hK26 _ _ _ _ _ _ _ hP hS (lv_sub hl [2, 3, 4, 1, 0] rfl) h
def f_X9_isOver_26 (M : Mem) (K2 : Int32 → Int32 → Option (Bool)) : Nat → Int32 → Int32 → Int32 → Int32 → Option (Bool)
  | 0, _, _, _, _ => none
  | n + 1, v1, v2, v3, v4 => if (gI M 119 81) ≤ v4 then (if v3 = 0 then (some true) else (f_X9_isOver_66 M K2 v1 v2)) else (gd (inR v4 4) <| if (gI M 188 v4.toNatClampNeg) = v2 then (f_X9_isOver_52 M K2 (f_X9_isOver_26 M K2 n) v1 v2 v4 1 v3) else (f_X9_isOver_52 M K2 (f_X9_isOver_26 M K2 n) v1 v2 v4 0 v3))
set_option maxRecDepth 100000 in
set_option maxHeartbeats 4000000 in
theorem w_X9_isOver_26 (X : Cx p s m args meth c cX9_isOver RX9 5 (some .boolean) G cy) {M : Mem} {out : Bool} {K2 : Int32 → Int32 → Option (Bool)} (hK2 : ∀ (H : Heap) (locs : List Loc) (ls : Array Slot) (v1 : Int32) (v2 : Int32), Pic G B cy nT M H → va_S (FB B) s.heap H locs → lv_has ls 5 [(0, .ref (B + 119)), (1, .int v1), (2, .int v2)] → K2 v1 v2 = some out → W p l e rmX9_isOver s m args below meth c H locs 0 0 (MQ below (Qi G B cy nT (bI out) M) args s 0 0 (FB B)) (F0 m 2 ls [])) : ∀ n : Nat, ∀ (H : Heap) (locs : List Loc) (ls : Array Slot) (v1 : Int32) (v2 : Int32) (v3 : Int32) (v4 : Int32), Pic G B cy nT M H → va_S (FB B) s.heap H locs → lv_has ls 5 [(0, .ref (B + 119)), (1, .int v1), (2, .int v2), (3, .int v3), (4, .int v4)] → f_X9_isOver_26 M K2 n v1 v2 v3 v4 = some out → W p l e rmX9_isOver s m args below meth c H locs 0 0 (MQ below (Qi G B cy nT (bI out) M) args s 0 0 (FB B)) (F0 m 26 ls []) := by
  obtain ⟨hx, hb, hr, hml, hown, hts, hKn, hlk⟩ := id X
  intro n
  induction n with
  | zero =>
    intro H locs ls v1 v2 v3 v4 hP hS hl h
    cases h
  | succ n ih =>
    intro H locs ls v1 v2 v3 v4 hP hS hl h
    rw [f_X9_isOver_26] at h
    refine lv_iload hx hb dX9_isOver_26 (lv_at hl 4 rfl) ?_
    refine lv_aload_n hx hb dX9_isOver_28 rfl (lv_at hl 0 rfl) ?_
    refine gf_X9_390 X hP dX9_isOver_29 ?_
    refine lv_icmp_ge (tgt := 60) hx hb dX9_isOver_32 (by decide) (fun hc => ?_) (fun hc => ?_)
    · replace h := if_elp h hc
      refine lv_iload_n hx hb dX9_isOver_60 rfl (lv_at hl 3 rfl) ?_
      refine lv_if_ne (tgt := 66) hx hb dX9_isOver_61 (by decide) (fun hc => ?_) (fun hc => ?_)
      · replace h := if_eln h hc
        exact w_X9_isOver_66 X hK2 hP hS (lv_sub hl [0, 1, 2] rfl) h
      · replace h := if_elp h hc
        refine lv_iconst (v := 1) hx hb dX9_isOver_64 (by decide) ?_
        exact r_zret X hP hS rfl (prz h) rfl dX9_isOver_65
    · replace h := if_eln h hc
      refine lv_iload_n hx hb dX9_isOver_35 rfl (lv_at hl 3 rfl) ?_
      refine lv_aload_n hx hb dX9_isOver_36 rfl (lv_at hl 0 rfl) ?_
      refine gf_X9_220 X hP dX9_isOver_37 ?_
      refine lv_iload hx hb dX9_isOver_40 (lv_at hl 4 rfl) ?_
      obtain ⟨g_1, h⟩ := gd_el h
      refine r_iald X hP kq_188 g_1 dX9_isOver_42 ?_
      refine lv_iload_n hx hb dX9_isOver_43 rfl (lv_at hl 2 rfl) ?_
      refine lv_icmp_ne (tgt := 51) hx hb dX9_isOver_44 (by decide) (fun hc => ?_) (fun hc => ?_)
      · replace h := if_eln h hc
        refine lv_iconst (v := 0) hx hb dX9_isOver_51 (by decide) ?_
        exact w_X9_isOver_52 X hK2 ih hP hS (lv_sub hl [0, 1, 2, 4] rfl) h
      · replace h := if_elp h hc
        refine lv_iconst (v := 1) hx hb dX9_isOver_47 (by decide) ?_
        refine lv_goto (tgt := 52) hx hb dX9_isOver_48 (by decide) ?_
        exact w_X9_isOver_52 X hK2 ih hP hS (lv_sub hl [0, 1, 2, 4] rfl) h
def f_X9_isOver_2 (M : Mem) : Nat → Int32 → Int32 → Option (Bool)
  | 0, _, _ => none
  | n + 1, v1, v2 => gd (inR v1 4) <| if (gI M 188 v1.toNatClampNeg) ≤ v2 then (some false) else (gd (inR v2 20) <| if (gI M 138 v2.toNatClampNeg) = 0 then (f_X9_isOver_26 M (f_X9_isOver_2 M n) FU v1 v2 0 v1) else (f_X9_isOver_66 M (f_X9_isOver_2 M n) v1 v2))
set_option maxRecDepth 100000 in
set_option maxHeartbeats 4000000 in
theorem w_X9_isOver_2 (X : Cx p s m args meth c cX9_isOver RX9 5 (some .boolean) G cy) {M : Mem} {out : Bool} : ∀ n : Nat, ∀ (H : Heap) (locs : List Loc) (ls : Array Slot) (v1 : Int32) (v2 : Int32), Pic G B cy nT M H → va_S (FB B) s.heap H locs → lv_has ls 5 [(0, .ref (B + 119)), (1, .int v1), (2, .int v2)] → f_X9_isOver_2 M n v1 v2 = some out → W p l e rmX9_isOver s m args below meth c H locs 0 0 (MQ below (Qi G B cy nT (bI out) M) args s 0 0 (FB B)) (F0 m 2 ls []) := by
  obtain ⟨hx, hb, hr, hml, hown, hts, hKn, hlk⟩ := id X
  intro n
  induction n with
  | zero =>
    intro H locs ls v1 v2 hP hS hl h
    cases h
  | succ n ih =>
    intro H locs ls v1 v2 hP hS hl h
    rw [f_X9_isOver_2] at h
    refine lv_iload_n hx hb dX9_isOver_2 rfl (lv_at hl 2 rfl) ?_
    refine lv_aload_n hx hb dX9_isOver_3 rfl (lv_at hl 0 rfl) ?_
    refine gf_X9_220 X hP dX9_isOver_4 ?_
    refine lv_iload_n hx hb dX9_isOver_7 rfl (lv_at hl 1 rfl) ?_
    obtain ⟨g_1, h⟩ := gd_el h
    refine r_iald X hP kq_188 g_1 dX9_isOver_8 ?_
    refine lv_icmp_ge (tgt := 72) hx hb dX9_isOver_9 (by decide) (fun hc => ?_) (fun hc => ?_)
    · replace h := if_elp h hc
      refine lv_iconst (v := 0) hx hb dX9_isOver_72 (by decide) ?_
      exact r_zret X hP hS rfl (prz h) rfl dX9_isOver_73
    · replace h := if_eln h hc
      refine lv_aload_n hx hb dX9_isOver_12 rfl (lv_at hl 0 rfl) ?_
      refine gf_X9_65 X hP dX9_isOver_13 ?_
      refine lv_iload_n hx hb dX9_isOver_16 rfl (lv_at hl 2 rfl) ?_
      obtain ⟨g_2, h⟩ := gd_el h
      refine r_iald X hP kq_138 g_2 dX9_isOver_17 ?_
      refine lv_if_ne (tgt := 66) hx hb dX9_isOver_18 (by decide) (fun hc => ?_) (fun hc => ?_)
      · replace h := if_eln h hc
        exact w_X9_isOver_66 X ih hP hS (lv_sub hl [0, 1, 2] rfl) h
      · replace h := if_elp h hc
        refine lv_iconst (v := 0) hx hb dX9_isOver_21 (by decide) ?_
        refine lv_istore_n (lv' := [(3, .int 0), (0, .ref (B + 119)), (1, .int v1), (2, .int v2)]) hx hb dX9_isOver_22 rfl hl (by decide) rfl (fun ls hl => ?_)
        refine lv_iload_n hx hb dX9_isOver_23 rfl (lv_at hl 2 rfl) ?_
        refine lv_istore (lv' := [(4, .int v1), (3, .int 0), (0, .ref (B + 119)), (1, .int v1), (2, .int v2)]) hx hb dX9_isOver_24 hl (by decide) rfl (fun ls hl => ?_)
        exact w_X9_isOver_26 X ih FU _ _ _ _ _ _ _ hP hS (lv_sub hl [2, 3, 4, 1, 0] rfl) h
def f_X9_isOver (M : Mem) (a1 : Int32) : Option (Bool) :=
  f_X9_isOver_2 M FU a1 0
set_option maxRecDepth 100000 in
set_option maxHeartbeats 4000000 in
theorem c_X9_isOver {l : Launch} {G : va_G} {cy : Nat → ClassId} {B nT : Nat} {M : Mem} {a1 : Int32} {out : Bool} (h : f_X9_isOver M a1 = some out) : Met l yX9_isOver (wsU yX9_isOver cX9_isOver 5 (some .boolean)) rmX9_isOver (va_Pc [.ref (B + 119), .int a1] (PU G B cy nT M)) (Qi G B cy nT (bI out) M) 0 0 (FB B) := by
  refine r_met (by decide +kernel) RX9 rfl (Nat.le_of_ble_eq_true rfl) ?_
  intro p e s m args below meth c ls X hP hl
  have hl : lv_has ls 5 [(0, .ref (B + 119)), (1, .int a1)] := hl
  have hS : va_S (FB B) s.heap s.heap [] := va_S.rf
  obtain ⟨hx, hb, hr, hml, hown, hts, hKn, hlk⟩ := id X
  unfold f_X9_isOver at h
  refine lv_iconst (v := 0) hx hb dX9_isOver_0 (by decide) ?_
  refine lv_istore_n (lv' := [(2, .int 0), (0, .ref (B + 119)), (1, .int a1)]) hx hb dX9_isOver_1 rfl hl (by decide) rfl (fun ls hl => ?_)
  exact w_X9_isOver_2 X FU _ _ _ _ _ hP hS (lv_sub hl [1, 2, 0] rfl) h
abbrev rmX9_round : Room := { frames := 7, cells := 0, slots := 0, locals := 166 }
def f_X9_round_100 : Nat → Mem → Int32 → Option (Int32 × Mem)
  | 0, _, _ => none
  | n + 1, M, v1 => if (gI M 119 81) ≤ v1 then (some (v1, M)) else (Option.bind (f_X9_isOver M v1) fun r_1 => if (bI r_1) = 0 then (gd (inR v1 4) <| Option.bind (f_X9_turn M (gI M 188 v1.toNatClampNeg) v1) fun r_2 => lt (v1 + 1) fun v_1 => (f_X9_round_100 n) r_2 v_1) else (some (v1, M)))
set_option maxRecDepth 100000 in
set_option maxHeartbeats 4000000 in
theorem w_X9_round_100 (X : Cx p s m args meth c cX9_round RX9 2 (some .int) G cy) {out : Int32 × Mem} : ∀ n : Nat, ∀ (H : Heap) (locs : List Loc) (ls : Array Slot) (M : Mem) (v1 : Int32), Pic G B cy nT M H → va_S (FB B) s.heap H locs → lv_has ls 2 [(0, .ref (B + 119)), (1, .int v1)] → f_X9_round_100 n M v1 = some out → W p l e rmX9_round s m args below meth c H locs 0 0 (MQ below (Qi G B cy nT out.1 out.2) args s 0 0 (FB B)) (F0 m 100 ls []) := by
  obtain ⟨hx, hb, hr, hml, hown, hts, hKn, hlk⟩ := id X
  intro n
  induction n with
  | zero =>
    intro H locs ls M v1 hP hS hl h
    cases h
  | succ n ih =>
    intro H locs ls M v1 hP hS hl h
    rw [f_X9_round_100] at h
    refine lv_iload_n hx hb dX9_round_100 rfl (lv_at hl 1 rfl) ?_
    refine lv_aload_n hx hb dX9_round_101 rfl (lv_at hl 0 rfl) ?_
    refine gf_X9_390 X hP dX9_round_102 ?_
    refine lv_icmp_ge (tgt := 133) hx hb dX9_round_105 (by decide) (fun hc => ?_) (fun hc => ?_)
    · replace h := if_elp h hc
      refine lv_iload_n hx hb dX9_round_133 rfl (lv_at hl 1 rfl) ?_
      exact r_iret X hP hS (pr1 h) (pr2 h) dX9_round_134
    · replace h := if_eln h hc
      refine lv_aload_n hx hb dX9_round_108 rfl (lv_at hl 0 rfl) ?_
      refine lv_iload_n hx hb dX9_round_109 rfl (lv_at hl 1 rfl) ?_
      obtain ⟨r_1, h_1, h⟩ := bd_el h
      refine cl_i (rn_V (C := RX9) (ci := 9) X hP (c_X9_isOver h_1) kq_119 rfl k_794 k_795 k_927 k_9 k_796 rfl hd_X9_isOver (n := 1) ⟨⟨rfl, rfl⟩, Nat.le_of_ble_eq_true rfl, Nat.le_of_ble_eq_true rfl⟩ (As := [.int v1]) (rest := []) rfl hl.1 rfl (Nat.le_of_ble_eq_true rfl) dX9_round_110 ⟨Nat.zero_le _, Nat.zero_le _⟩) hS (fun H locs hP hS => ?_)
      refine lv_if_ne (tgt := 133) hx hb dX9_round_113 (by decide) (fun hc => ?_) (fun hc => ?_)
      · replace h := if_eln h hc
        refine lv_iload_n hx hb dX9_round_133 rfl (lv_at hl 1 rfl) ?_
        exact r_iret X hP hS (pr1 h) (pr2 h) dX9_round_134
      · replace h := if_elp h hc
        refine lv_aload_n hx hb dX9_round_116 rfl (lv_at hl 0 rfl) ?_
        refine lv_aload_n hx hb dX9_round_117 rfl (lv_at hl 0 rfl) ?_
        refine gf_X9_220 X hP dX9_round_118 ?_
        refine lv_iload_n hx hb dX9_round_121 rfl (lv_at hl 1 rfl) ?_
        obtain ⟨g_1, h⟩ := gd_el h
        refine r_iald X hP kq_188 g_1 dX9_round_122 ?_
        refine lv_iload_n hx hb dX9_round_123 rfl (lv_at hl 1 rfl) ?_
        obtain ⟨r_2, h_2, h⟩ := bd_el h
        refine cl_v (rn_V (C := RX9) (ci := 9) X hP (c_X9_turn h_2) kq_119 rfl k_797 k_798 k_928 k_9 k_799 rfl hd_X9_turn (n := 2) ⟨⟨rfl, rfl⟩, Nat.le_of_ble_eq_true rfl, Nat.le_of_ble_eq_true rfl⟩ (As := [.int (gI M 188 v1.toNatClampNeg), .int v1]) (rest := []) rfl hl.1 rfl (Nat.le_of_ble_eq_true rfl) dX9_round_124 ⟨Nat.zero_le _, Nat.zero_le _⟩) hS (fun H locs hP hS => ?_)
        obtain ⟨v_1, e_1, h⟩ := lt_el h
        refine lv_iinc (v := v_1) (lv' := [(1, .int v_1), (0, .ref (B + 119))]) hx hb dX9_round_127 hl (k := 1) rfl (by rw [e_1]; rfl) (by decide) rfl (fun ls hl => ?_)
        refine lv_goto (tgt := 100) hx hb dX9_round_130 (by decide) ?_
        exact ih _ _ _ _ _ hP hS (lv_sub hl [1, 0] rfl) h
def f_X9_round_73 : Nat → Mem → Int32 → Option (Int32 × Mem)
  | 0, _, _ => none
  | n + 1, M, v1 => if (gI M 119 81) ≤ v1 then (f_X9_round_100 FU M 0) else (gd (inR v1 4) <| Option.bind (f_X9_attempt M (gI M 188 v1.toNatClampNeg) v1) fun r_1 => lt (v1 + 1) fun v_1 => (f_X9_round_73 n) r_1 v_1)
set_option maxRecDepth 100000 in
set_option maxHeartbeats 4000000 in
theorem w_X9_round_73 (X : Cx p s m args meth c cX9_round RX9 2 (some .int) G cy) {out : Int32 × Mem} : ∀ n : Nat, ∀ (H : Heap) (locs : List Loc) (ls : Array Slot) (M : Mem) (v1 : Int32), Pic G B cy nT M H → va_S (FB B) s.heap H locs → lv_has ls 2 [(0, .ref (B + 119)), (1, .int v1)] → f_X9_round_73 n M v1 = some out → W p l e rmX9_round s m args below meth c H locs 0 0 (MQ below (Qi G B cy nT out.1 out.2) args s 0 0 (FB B)) (F0 m 73 ls []) := by
  obtain ⟨hx, hb, hr, hml, hown, hts, hKn, hlk⟩ := id X
  intro n
  induction n with
  | zero =>
    intro H locs ls M v1 hP hS hl h
    cases h
  | succ n ih =>
    intro H locs ls M v1 hP hS hl h
    rw [f_X9_round_73] at h
    refine lv_iload_n hx hb dX9_round_73 rfl (lv_at hl 1 rfl) ?_
    refine lv_aload_n hx hb dX9_round_74 rfl (lv_at hl 0 rfl) ?_
    refine gf_X9_390 X hP dX9_round_75 ?_
    refine lv_icmp_ge (tgt := 98) hx hb dX9_round_78 (by decide) (fun hc => ?_) (fun hc => ?_)
    · replace h := if_elp h hc
      refine lv_iconst (v := 0) hx hb dX9_round_98 (by decide) ?_
      refine lv_istore_n (lv' := [(1, .int 0), (0, .ref (B + 119))]) hx hb dX9_round_99 rfl hl (by decide) rfl (fun ls hl => ?_)
      exact w_X9_round_100 X FU _ _ _ _ _ hP hS (lv_sub hl [1, 0] rfl) h
    · replace h := if_eln h hc
      refine lv_aload_n hx hb dX9_round_81 rfl (lv_at hl 0 rfl) ?_
      refine lv_aload_n hx hb dX9_round_82 rfl (lv_at hl 0 rfl) ?_
      refine gf_X9_220 X hP dX9_round_83 ?_
      refine lv_iload_n hx hb dX9_round_86 rfl (lv_at hl 1 rfl) ?_
      obtain ⟨g_1, h⟩ := gd_el h
      refine r_iald X hP kq_188 g_1 dX9_round_87 ?_
      refine lv_iload_n hx hb dX9_round_88 rfl (lv_at hl 1 rfl) ?_
      obtain ⟨r_1, h_1, h⟩ := bd_el h
      refine cl_v (rn_V (C := RX9) (ci := 9) X hP (c_X9_attempt h_1) kq_119 rfl k_730 k_731 k_909 k_9 k_732 rfl hd_X9_attempt (n := 2) ⟨⟨rfl, rfl⟩, Nat.le_of_ble_eq_true rfl, Nat.le_of_ble_eq_true rfl⟩ (As := [.int (gI M 188 v1.toNatClampNeg), .int v1]) (rest := []) rfl hl.1 rfl (Nat.le_of_ble_eq_true rfl) dX9_round_89 ⟨Nat.zero_le _, Nat.zero_le _⟩) hS (fun H locs hP hS => ?_)
      obtain ⟨v_1, e_1, h⟩ := lt_el h
      refine lv_iinc (v := v_1) (lv' := [(1, .int v_1), (0, .ref (B + 119))]) hx hb dX9_round_92 hl (k := 1) rfl (by rw [e_1]; rfl) (by decide) rfl (fun ls hl => ?_)
      refine lv_goto (tgt := 73) hx hb dX9_round_95 (by decide) ?_
      exact ih _ _ _ _ _ hP hS (lv_sub hl [1, 0] rfl) h
def f_X9_round_71 (M : Mem) : Option (Int32 × Mem) :=
  f_X9_round_73 FU M 0
set_option maxRecDepth 100000 in
set_option maxHeartbeats 4000000 in
theorem w_X9_round_71 (X : Cx p s m args meth c cX9_round RX9 2 (some .int) G cy) {out : Int32 × Mem} {M : Mem} (hP : Pic G B cy nT M H) (hS : va_S (FB B) s.heap H locs) (hl : lv_has ls 2 [(0, .ref (B + 119))]) (h : f_X9_round_71 M = some out) : W p l e rmX9_round s m args below meth c H locs 0 0 (MQ below (Qi G B cy nT out.1 out.2) args s 0 0 (FB B)) (F0 m 71 ls []) := by
  obtain ⟨hx, hb, hr, hml, hown, hts, hKn, hlk⟩ := id X
  unfold f_X9_round_71 at h
  refine lv_iconst (v := 0) hx hb dX9_round_71 (by decide) ?_
  refine lv_istore_n (lv' := [(1, .int 0), (0, .ref (B + 119))]) hx hb dX9_round_72 rfl hl (by decide) rfl (fun ls hl => ?_)
  exact w_X9_round_73 X FU _ _ _ _ _ hP hS (lv_sub hl [1, 0] rfl) h
def f_X9_round_65 (K17 : Mem → Int32 → Option (Int32 × Mem)) (M : Mem) (v1 : Int32) : Option (Int32 × Mem) :=
  lt (v1 + 1) fun v_1 => K17 M v_1
set_option maxRecDepth 100000 in
set_option maxHeartbeats 4000000 in
theorem w_X9_round_65 (X : Cx p s m args meth c cX9_round RX9 2 (some .int) G cy) {out : Int32 × Mem} {K17 : Mem → Int32 → Option (Int32 × Mem)} (hK17 : ∀ (H : Heap) (locs : List Loc) (ls : Array Slot) (M : Mem) (v1 : Int32), Pic G B cy nT M H → va_S (FB B) s.heap H locs → lv_has ls 2 [(0, .ref (B + 119)), (1, .int v1)] → K17 M v1 = some out → W p l e rmX9_round s m args below meth c H locs 0 0 (MQ below (Qi G B cy nT out.1 out.2) args s 0 0 (FB B)) (F0 m 17 ls [])) {M : Mem} {v1 : Int32} (hP : Pic G B cy nT M H) (hS : va_S (FB B) s.heap H locs) (hl : lv_has ls 2 [(0, .ref (B + 119)), (1, .int v1)]) (h : f_X9_round_65 K17 M v1 = some out) : W p l e rmX9_round s m args below meth c H locs 0 0 (MQ below (Qi G B cy nT out.1 out.2) args s 0 0 (FB B)) (F0 m 65 ls []) := by
  obtain ⟨hx, hb, hr, hml, hown, hts, hKn, hlk⟩ := id X
  unfold f_X9_round_65 at h
  obtain ⟨v_1, e_1, h⟩ := lt_el h
  refine lv_iinc (v := v_1) (lv' := [(1, .int v_1), (0, .ref (B + 119))]) hx hb dX9_round_65 hl (k := 1) rfl (by rw [e_1]; rfl) (by decide) rfl (fun ls hl => ?_)
  refine lv_goto (tgt := 17) hx hb dX9_round_68 (by decide) ?_
  exact hK17 _ _ _ _ _ hP hS (lv_sub hl [1, 0] rfl) h
def f_X9_round_17 : Nat → Mem → Int32 → Option (Int32 × Mem)
  | 0, _, _ => none
  | n + 1, M, v1 => if (gI M 119 18) ≤ v1 then (f_X9_round_71 M) else (if (gI M 119 37) ≤ (gI M 119 81) then (f_X9_round_71 M) else (gd (inR v1 20) <| if (gI M 138 v1.toNatClampNeg) = 0 then (gd (inR (gI M 119 81) 4) <| lt (sI M 188 (gI M 119 81).toNatClampNeg v1) fun M_1 => lt (sI M_1 119 81 ((gI M_1 119 81) + 1)) fun M_2 => f_X9_round_65 (f_X9_round_17 n) M_2 v1) else (f_X9_round_65 (f_X9_round_17 n) M v1)))
set_option maxRecDepth 100000 in
set_option maxHeartbeats 4000000 in
theorem w_X9_round_17 (X : Cx p s m args meth c cX9_round RX9 2 (some .int) G cy) {out : Int32 × Mem} : ∀ n : Nat, ∀ (H : Heap) (locs : List Loc) (ls : Array Slot) (M : Mem) (v1 : Int32), Pic G B cy nT M H → va_S (FB B) s.heap H locs → lv_has ls 2 [(0, .ref (B + 119)), (1, .int v1)] → f_X9_round_17 n M v1 = some out → W p l e rmX9_round s m args below meth c H locs 0 0 (MQ below (Qi G B cy nT out.1 out.2) args s 0 0 (FB B)) (F0 m 17 ls []) := by
  obtain ⟨hx, hb, hr, hml, hown, hts, hKn, hlk⟩ := id X
  intro n
  induction n with
  | zero =>
    intro H locs ls M v1 hP hS hl h
    cases h
  | succ n ih =>
    intro H locs ls M v1 hP hS hl h
    rw [f_X9_round_17] at h
    refine lv_iload_n hx hb dX9_round_17 rfl (lv_at hl 1 rfl) ?_
    refine lv_aload_n hx hb dX9_round_18 rfl (lv_at hl 0 rfl) ?_
    refine gf_X9_231 X hP dX9_round_19 ?_
    refine lv_icmp_ge (tgt := 71) hx hb dX9_round_22 (by decide) (fun hc => ?_) (fun hc => ?_)
    · replace h := if_elp h hc
      exact w_X9_round_71 X hP hS (lv_sub hl [0] rfl) h
    · replace h := if_eln h hc
      refine lv_aload_n hx hb dX9_round_25 rfl (lv_at hl 0 rfl) ?_
      refine gf_X9_390 X hP dX9_round_26 ?_
      refine lv_aload_n hx hb dX9_round_29 rfl (lv_at hl 0 rfl) ?_
      refine gf_X9_117 X hP dX9_round_30 ?_
      refine lv_icmp_ge (tgt := 71) hx hb dX9_round_33 (by decide) (fun hc => ?_) (fun hc => ?_)
      · replace h := if_elp h hc
        exact w_X9_round_71 X hP hS (lv_sub hl [0] rfl) h
      · replace h := if_eln h hc
        refine lv_aload_n hx hb dX9_round_36 rfl (lv_at hl 0 rfl) ?_
        refine gf_X9_65 X hP dX9_round_37 ?_
        refine lv_iload_n hx hb dX9_round_40 rfl (lv_at hl 1 rfl) ?_
        obtain ⟨g_1, h⟩ := gd_el h
        refine r_iald X hP kq_138 g_1 dX9_round_41 ?_
        refine lv_if_ne (tgt := 65) hx hb dX9_round_42 (by decide) (fun hc => ?_) (fun hc => ?_)
        · replace h := if_eln h hc
          exact w_X9_round_65 X ih hP hS (lv_sub hl [0, 1] rfl) h
        · replace h := if_elp h hc
          refine lv_aload_n hx hb dX9_round_45 rfl (lv_at hl 0 rfl) ?_
          refine gf_X9_220 X hP dX9_round_46 ?_
          refine lv_aload_n hx hb dX9_round_49 rfl (lv_at hl 0 rfl) ?_
          refine gf_X9_390 X hP dX9_round_50 ?_
          refine lv_iload_n hx hb dX9_round_53 rfl (lv_at hl 1 rfl) ?_
          obtain ⟨g_2, h⟩ := gd_el h
          obtain ⟨M_1, e_1, h⟩ := lt_el h
          refine r_iast X hP hS kq_188 g_2 e_1 dX9_round_54 (fun H locs hP hS => ?_)
          refine lv_aload_n hx hb dX9_round_55 rfl (lv_at hl 0 rfl) ?_
          refine lv_dup hx hb dX9_round_56 rfl ?_
          refine gf_X9_390 X hP dX9_round_57 ?_
          refine lv_iconst (v := 1) hx hb dX9_round_60 (by decide) ?_
          refine lv_iadd hx hb dX9_round_61 ?_
          obtain ⟨M_2, e_2, h⟩ := lt_el h
          refine pf_X9_390 X hP hS e_2 dX9_round_62 (fun H locs hP hS => ?_)
          exact w_X9_round_65 X ih hP hS (lv_sub hl [0, 1] rfl) h
def f_X9_round (M : Mem) : Option (Int32 × Mem) :=
  lt (sI M 119 40 ((gI M 119 40) + 1)) fun M_1 => lt (sI M_1 119 81 0) fun M_2 => f_X9_round_17 FU M_2 0
set_option maxRecDepth 100000 in
set_option maxHeartbeats 4000000 in
theorem c_X9_round {l : Launch} {G : va_G} {cy : Nat → ClassId} {B nT : Nat} {M : Mem} {out : Int32 × Mem} (h : f_X9_round M = some out) : Met l yX9_round (wsU yX9_round cX9_round 2 (some .int)) rmX9_round (va_Pc [.ref (B + 119)] (PU G B cy nT M)) (Qi G B cy nT out.1 out.2) 0 0 (FB B) := by
  refine r_met (by decide +kernel) RX9 rfl (Nat.le_of_ble_eq_true rfl) ?_
  intro p e s m args below meth c ls X hP hl
  have hl : lv_has ls 2 [(0, .ref (B + 119))] := hl
  have hS : va_S (FB B) s.heap s.heap [] := va_S.rf
  obtain ⟨hx, hb, hr, hml, hown, hts, hKn, hlk⟩ := id X
  unfold f_X9_round at h
  refine lv_aload_n hx hb dX9_round_0 rfl (lv_at hl 0 rfl) ?_
  refine lv_dup hx hb dX9_round_1 rfl ?_
  refine gf_X9_393 X hP dX9_round_2 ?_
  refine lv_iconst (v := 1) hx hb dX9_round_5 (by decide) ?_
  refine lv_iadd hx hb dX9_round_6 ?_
  obtain ⟨M_1, e_1, h⟩ := lt_el h
  refine pf_X9_393 X hP hS e_1 dX9_round_7 (fun H locs hP hS => ?_)
  refine lv_aload_n hx hb dX9_round_10 rfl (lv_at hl 0 rfl) ?_
  refine lv_iconst (v := 0) hx hb dX9_round_11 (by decide) ?_
  obtain ⟨M_2, e_2, h⟩ := lt_el h
  refine pf_X9_390 X hP hS e_2 dX9_round_12 (fun H locs hP hS => ?_)
  refine lv_iconst (v := 0) hx hb dX9_round_15 (by decide) ?_
  refine lv_istore_n (lv' := [(1, .int 0), (0, .ref (B + 119))]) hx hb dX9_round_16 rfl hl (by decide) rfl (fun ls hl => ?_)
  exact w_X9_round_17 X FU _ _ _ _ _ hP hS (lv_sub hl [1, 0] rfl) h
abbrev rmX9_many : Room := { frames := 0, cells := 0, slots := 0, locals := 0 }
def f_X9_many_28 (M : Mem) (K4 : Int32 → Int32 → Int32 → Option (Int32)) (v1 : Int32) (v3 : Int32) (s0 : Int32) (s1 : Int32) : Option (Int32) :=
  lt (s1 + s0) fun v_1 => lt (v3 + 1) fun v_2 => K4 v1 v_1 v_2
set_option maxRecDepth 100000 in
set_option maxHeartbeats 4000000 in
theorem w_X9_many_28 (X : Cx p s m args meth c cX9_many RX9 4 (some .int) G cy) {M : Mem} {out : Int32} {K4 : Int32 → Int32 → Int32 → Option (Int32)} (hK4 : ∀ (H : Heap) (locs : List Loc) (ls : Array Slot) (v1 : Int32) (v2 : Int32) (v3 : Int32), Pic G B cy nT M H → va_S (FB B) s.heap H locs → lv_has ls 4 [(0, .ref (B + 119)), (1, .int v1), (2, .int v2), (3, .int v3)] → K4 v1 v2 v3 = some out → W p l e rmX9_many s m args below meth c H locs 0 0 (MQ below (Qi G B cy nT out M) args s 0 0 (FB B)) (F0 m 4 ls [])) {v1 : Int32} {v3 : Int32} {s0 : Int32} {s1 : Int32} (hP : Pic G B cy nT M H) (hS : va_S (FB B) s.heap H locs) (hl : lv_has ls 4 [(0, .ref (B + 119)), (1, .int v1), (3, .int v3)]) (h : f_X9_many_28 M K4 v1 v3 s0 s1 = some out) : W p l e rmX9_many s m args below meth c H locs 0 0 (MQ below (Qi G B cy nT out M) args s 0 0 (FB B)) (F0 m 28 ls [.int s0, .int s1]) := by
  obtain ⟨hx, hb, hr, hml, hown, hts, hKn, hlk⟩ := id X
  unfold f_X9_many_28 at h
  refine lv_iadd hx hb dX9_many_28 ?_
  obtain ⟨v_1, e_1, h⟩ := lt_el h
  refine r_topi e_1 ?_
  refine lv_istore_n (lv' := [(2, .int v_1), (0, .ref (B + 119)), (1, .int v1), (3, .int v3)]) hx hb dX9_many_29 rfl hl (by decide) rfl (fun ls hl => ?_)
  obtain ⟨v_2, e_2, h⟩ := lt_el h
  refine lv_iinc (v := v_2) (lv' := [(3, .int v_2), (2, .int v_1), (0, .ref (B + 119)), (1, .int v1)]) hx hb dX9_many_30 hl (k := 3) rfl (by rw [e_2]; rfl) (by decide) rfl (fun ls hl => ?_)
  refine lv_goto (tgt := 4) hx hb dX9_many_33 (by decide) ?_
  exact hK4 _ _ _ _ _ _ hP hS (lv_sub hl [2, 3, 1, 0] rfl) h
def f_X9_many_4 (M : Mem) : Nat → Int32 → Int32 → Int32 → Option (Int32)
  | 0, _, _, _ => none
  | n + 1, v1, v2, v3 => if (gI M 119 18) ≤ v3 then (some v2) else (gd (inR v3 20) <| if (gI M 138 v3.toNatClampNeg) = v1 then (f_X9_many_28 M (f_X9_many_4 M n) v1 v3 1 v2) else (f_X9_many_28 M (f_X9_many_4 M n) v1 v3 0 v2))
set_option maxRecDepth 100000 in
set_option maxHeartbeats 4000000 in
theorem w_X9_many_4 (X : Cx p s m args meth c cX9_many RX9 4 (some .int) G cy) {M : Mem} {out : Int32} : ∀ n : Nat, ∀ (H : Heap) (locs : List Loc) (ls : Array Slot) (v1 : Int32) (v2 : Int32) (v3 : Int32), Pic G B cy nT M H → va_S (FB B) s.heap H locs → lv_has ls 4 [(0, .ref (B + 119)), (1, .int v1), (2, .int v2), (3, .int v3)] → f_X9_many_4 M n v1 v2 v3 = some out → W p l e rmX9_many s m args below meth c H locs 0 0 (MQ below (Qi G B cy nT out M) args s 0 0 (FB B)) (F0 m 4 ls []) := by
  obtain ⟨hx, hb, hr, hml, hown, hts, hKn, hlk⟩ := id X
  intro n
  induction n with
  | zero =>
    intro H locs ls v1 v2 v3 hP hS hl h
    cases h
  | succ n ih =>
    intro H locs ls v1 v2 v3 hP hS hl h
    rw [f_X9_many_4] at h
    refine lv_iload_n hx hb dX9_many_4 rfl (lv_at hl 3 rfl) ?_
    refine lv_aload_n hx hb dX9_many_5 rfl (lv_at hl 0 rfl) ?_
    refine gf_X9_231 X hP dX9_many_6 ?_
    refine lv_icmp_ge (tgt := 36) hx hb dX9_many_9 (by decide) (fun hc => ?_) (fun hc => ?_)
    · replace h := if_elp h hc
      refine lv_iload_n hx hb dX9_many_36 rfl (lv_at hl 2 rfl) ?_
      exact r_iret X hP hS (pr0 h) rfl dX9_many_37
    · replace h := if_eln h hc
      refine lv_iload_n hx hb dX9_many_12 rfl (lv_at hl 2 rfl) ?_
      refine lv_aload_n hx hb dX9_many_13 rfl (lv_at hl 0 rfl) ?_
      refine gf_X9_65 X hP dX9_many_14 ?_
      refine lv_iload_n hx hb dX9_many_17 rfl (lv_at hl 3 rfl) ?_
      obtain ⟨g_1, h⟩ := gd_el h
      refine r_iald X hP kq_138 g_1 dX9_many_18 ?_
      refine lv_iload_n hx hb dX9_many_19 rfl (lv_at hl 1 rfl) ?_
      refine lv_icmp_ne (tgt := 27) hx hb dX9_many_20 (by decide) (fun hc => ?_) (fun hc => ?_)
      · replace h := if_eln h hc
        refine lv_iconst (v := 0) hx hb dX9_many_27 (by decide) ?_
        exact w_X9_many_28 X ih hP hS (lv_sub hl [0, 1, 3] rfl) h
      · replace h := if_elp h hc
        refine lv_iconst (v := 1) hx hb dX9_many_23 (by decide) ?_
        refine lv_goto (tgt := 28) hx hb dX9_many_24 (by decide) ?_
        exact w_X9_many_28 X ih hP hS (lv_sub hl [0, 1, 3] rfl) h
def f_X9_many (M : Mem) (a1 : Int32) : Option (Int32) :=
  f_X9_many_4 M FU a1 0 0
set_option maxRecDepth 100000 in
set_option maxHeartbeats 4000000 in
theorem c_X9_many {l : Launch} {G : va_G} {cy : Nat → ClassId} {B nT : Nat} {M : Mem} {a1 : Int32} {out : Int32} (h : f_X9_many M a1 = some out) : Met l yX9_many (wsU yX9_many cX9_many 4 (some .int)) rmX9_many (va_Pc [.ref (B + 119), .int a1] (PU G B cy nT M)) (Qi G B cy nT out M) 0 0 (FB B) := by
  refine r_met (by decide +kernel) RX9 rfl (Nat.le_of_ble_eq_true rfl) ?_
  intro p e s m args below meth c ls X hP hl
  have hl : lv_has ls 4 [(0, .ref (B + 119)), (1, .int a1)] := hl
  have hS : va_S (FB B) s.heap s.heap [] := va_S.rf
  obtain ⟨hx, hb, hr, hml, hown, hts, hKn, hlk⟩ := id X
  unfold f_X9_many at h
  refine lv_iconst (v := 0) hx hb dX9_many_0 (by decide) ?_
  refine lv_istore_n (lv' := [(2, .int 0), (0, .ref (B + 119)), (1, .int a1)]) hx hb dX9_many_1 rfl hl (by decide) rfl (fun ls hl => ?_)
  refine lv_iconst (v := 0) hx hb dX9_many_2 (by decide) ?_
  refine lv_istore_n (lv' := [(3, .int 0), (2, .int 0), (0, .ref (B + 119)), (1, .int a1)]) hx hb dX9_many_3 rfl hl (by decide) rfl (fun ls hl => ?_)
  exact w_X9_many_4 X FU _ _ _ _ _ _ hP hS (lv_sub hl [2, 3, 1, 0] rfl) h
abbrev rmX9_submit : Room := { frames := 2, cells := 0, slots := 0, locals := 45 }
def f_X9_submit (M : Mem) (a1 : Int32) : Option (Int32 × Mem) :=
  Option.bind (f_X9_isTrade a1) fun r_1 => if (bI r_1) = 0 then (some ((-2), M)) else (if (gI M 119 18) = 20 then (some ((-3), M)) else (gd (inR (gI M 119 18) 20) <| lt (sI M 137 (gI M 119 18).toNatClampNeg a1) fun M_1 => gd (inR (gI M_1 119 18) 20) <| lt (sI M_1 138 (gI M_1 119 18).toNatClampNeg 0) fun M_2 => gd (inR (gI M_2 119 18) 20) <| lt (sI M_2 143 (gI M_2 119 18).toNatClampNeg (-1)) fun M_3 => gd (inR (gI M_3 119 18) 20) <| lt (sI M_3 144 (gI M_3 119 18).toNatClampNeg (-1)) fun M_4 => gd (inR (gI M_4 119 18) 20) <| lt (sI M_4 145 (gI M_4 119 18).toNatClampNeg (-1)) fun M_5 => lt (sI M_5 119 18 ((gI M_5 119 18) + 1)) fun M_6 => some (((gI M_6 119 18) - 1), M_6)))
set_option maxRecDepth 100000 in
set_option maxHeartbeats 4000000 in
theorem c_X9_submit {l : Launch} {G : va_G} {cy : Nat → ClassId} {B nT : Nat} {M : Mem} {a1 : Int32} {out : Int32 × Mem} (h : f_X9_submit M a1 = some out) : Met l yX9_submit (wsU yX9_submit cX9_submit 2 (some .int)) rmX9_submit (va_Pc [.ref (B + 119), .int a1] (PU G B cy nT M)) (Qi G B cy nT out.1 out.2) 0 0 (FB B) := by
  refine r_met (by decide +kernel) RX9 rfl (Nat.le_of_ble_eq_true rfl) ?_
  intro p e s m args below meth c ls X hP hl
  have hl : lv_has ls 2 [(0, .ref (B + 119)), (1, .int a1)] := hl
  have hS : va_S (FB B) s.heap s.heap [] := va_S.rf
  obtain ⟨hx, hb, hr, hml, hown, hts, hKn, hlk⟩ := id X
  unfold f_X9_submit at h
  refine lv_iload_n hx hb dX9_submit_0 rfl (lv_at hl 1 rfl) ?_
  obtain ⟨r_1, h_1, h⟩ := bd_el h
  refine cl_i (rn_S X hP (c_X9_isTrade h_1) k_688 k_689 k_9 k_690 hd_X9_isTrade (n := 1) ⟨⟨rfl, rfl⟩, Nat.le_of_ble_eq_true rfl, Nat.le_of_ble_eq_true rfl⟩ (As := [.int a1]) (rest := []) rfl hl.1 rfl (Nat.le_of_ble_eq_true rfl) dX9_submit_1 ⟨Nat.zero_le _, Nat.zero_le _⟩) hS (fun H locs hP hS => ?_)
  refine lv_if_ne (tgt := 10) hx hb dX9_submit_4 (by decide) (fun hc => ?_) (fun hc => ?_)
  · replace h := if_eln h hc
    refine lv_aload_n hx hb dX9_submit_10 rfl (lv_at hl 0 rfl) ?_
    refine gf_X9_231 X hP dX9_submit_11 ?_
    refine lv_bipush (v := 20) hx hb dX9_submit_14 (by decide) ?_
    refine lv_icmp_ne (tgt := 22) hx hb dX9_submit_16 (by decide) (fun hc => ?_) (fun hc => ?_)
    · replace h := if_eln h hc
      refine lv_aload_n hx hb dX9_submit_22 rfl (lv_at hl 0 rfl) ?_
      refine gf_X9_62 X hP dX9_submit_23 ?_
      refine lv_aload_n hx hb dX9_submit_26 rfl (lv_at hl 0 rfl) ?_
      refine gf_X9_231 X hP dX9_submit_27 ?_
      refine lv_iload_n hx hb dX9_submit_30 rfl (lv_at hl 1 rfl) ?_
      obtain ⟨g_1, h⟩ := gd_el h
      obtain ⟨M_1, e_1, h⟩ := lt_el h
      refine r_iast X hP hS kq_137 g_1 e_1 dX9_submit_31 (fun H locs hP hS => ?_)
      refine lv_aload_n hx hb dX9_submit_32 rfl (lv_at hl 0 rfl) ?_
      refine gf_X9_65 X hP dX9_submit_33 ?_
      refine lv_aload_n hx hb dX9_submit_36 rfl (lv_at hl 0 rfl) ?_
      refine gf_X9_231 X hP dX9_submit_37 ?_
      refine lv_iconst (v := 0) hx hb dX9_submit_40 (by decide) ?_
      obtain ⟨g_2, h⟩ := gd_el h
      obtain ⟨M_2, e_2, h⟩ := lt_el h
      refine r_iast X hP hS kq_138 g_2 e_2 dX9_submit_41 (fun H locs hP hS => ?_)
      refine lv_aload_n hx hb dX9_submit_42 rfl (lv_at hl 0 rfl) ?_
      refine gf_X9_80 X hP dX9_submit_43 ?_
      refine lv_aload_n hx hb dX9_submit_46 rfl (lv_at hl 0 rfl) ?_
      refine gf_X9_231 X hP dX9_submit_47 ?_
      refine lv_iconst (v := (-1)) hx hb dX9_submit_50 (by decide) ?_
      obtain ⟨g_3, h⟩ := gd_el h
      obtain ⟨M_3, e_3, h⟩ := lt_el h
      refine r_iast X hP hS kq_143 g_3 e_3 dX9_submit_51 (fun H locs hP hS => ?_)
      refine lv_aload_n hx hb dX9_submit_52 rfl (lv_at hl 0 rfl) ?_
      refine gf_X9_83 X hP dX9_submit_53 ?_
      refine lv_aload_n hx hb dX9_submit_56 rfl (lv_at hl 0 rfl) ?_
      refine gf_X9_231 X hP dX9_submit_57 ?_
      refine lv_iconst (v := (-1)) hx hb dX9_submit_60 (by decide) ?_
      obtain ⟨g_4, h⟩ := gd_el h
      obtain ⟨M_4, e_4, h⟩ := lt_el h
      refine r_iast X hP hS kq_144 g_4 e_4 dX9_submit_61 (fun H locs hP hS => ?_)
      refine lv_aload_n hx hb dX9_submit_62 rfl (lv_at hl 0 rfl) ?_
      refine gf_X9_86 X hP dX9_submit_63 ?_
      refine lv_aload_n hx hb dX9_submit_66 rfl (lv_at hl 0 rfl) ?_
      refine gf_X9_231 X hP dX9_submit_67 ?_
      refine lv_iconst (v := (-1)) hx hb dX9_submit_70 (by decide) ?_
      obtain ⟨g_5, h⟩ := gd_el h
      obtain ⟨M_5, e_5, h⟩ := lt_el h
      refine r_iast X hP hS kq_145 g_5 e_5 dX9_submit_71 (fun H locs hP hS => ?_)
      refine lv_aload_n hx hb dX9_submit_72 rfl (lv_at hl 0 rfl) ?_
      refine lv_dup hx hb dX9_submit_73 rfl ?_
      refine gf_X9_231 X hP dX9_submit_74 ?_
      refine lv_iconst (v := 1) hx hb dX9_submit_77 (by decide) ?_
      refine lv_iadd hx hb dX9_submit_78 ?_
      obtain ⟨M_6, e_6, h⟩ := lt_el h
      refine pf_X9_231 X hP hS e_6 dX9_submit_79 (fun H locs hP hS => ?_)
      refine lv_aload_n hx hb dX9_submit_82 rfl (lv_at hl 0 rfl) ?_
      refine gf_X9_231 X hP dX9_submit_83 ?_
      refine lv_iconst (v := 1) hx hb dX9_submit_86 (by decide) ?_
      refine lv_isub hx hb dX9_submit_87 ?_
      exact r_iret X hP hS (pr1 h) (pr2 h) dX9_submit_88
    · replace h := if_elp h hc
      refine lv_bipush (v := (-3)) hx hb dX9_submit_19 (by decide) ?_
      exact r_iret X hP hS (pr1 h) (pr2 h) dX9_submit_21
  · replace h := if_elp h hc
    refine lv_bipush (v := (-2)) hx hb dX9_submit_7 (by decide) ?_
    exact r_iret X hP hS (pr1 h) (pr2 h) dX9_submit_9
abbrev rmX9_window : Room := { frames := 1, cells := 0, slots := 0, locals := 25 }
def f_X9_window (M : Mem) (a1 : Int32) : Option (Int32 × Mem) :=
  Option.bind (f_X9_in (Int32.toInt64 a1) 1 4) fun r_1 => if (bI r_1) = 0 then (some ((-2), M)) else (lt (gI M 119 37) fun v_1 => lt (sI M 119 37 a1) fun M_1 => some (v_1, M_1))
set_option maxRecDepth 100000 in
set_option maxHeartbeats 4000000 in
theorem c_X9_window {l : Launch} {G : va_G} {cy : Nat → ClassId} {B nT : Nat} {M : Mem} {a1 : Int32} {out : Int32 × Mem} (h : f_X9_window M a1 = some out) : Met l yX9_window (wsU yX9_window cX9_window 3 (some .int)) rmX9_window (va_Pc [.ref (B + 119), .int a1] (PU G B cy nT M)) (Qi G B cy nT out.1 out.2) 0 0 (FB B) := by
  refine r_met (by decide +kernel) RX9 rfl (Nat.le_of_ble_eq_true rfl) ?_
  intro p e s m args below meth c ls X hP hl
  have hl : lv_has ls 3 [(0, .ref (B + 119)), (1, .int a1)] := hl
  have hS : va_S (FB B) s.heap s.heap [] := va_S.rf
  obtain ⟨hx, hb, hr, hml, hown, hts, hKn, hlk⟩ := id X
  unfold f_X9_window at h
  refine lv_iload_n hx hb dX9_window_0 rfl (lv_at hl 1 rfl) ?_
  refine lv_i2l (v := (Int32.toInt64 a1)) hx hb dX9_window_1 rfl ?_
  refine lv_lconst (v := 1) hx hb dX9_window_2 rfl ?_
  refine lv_ldc2 (v := 4) hx hb hown (hts _ k_718) dX9_window_3 ?_
  obtain ⟨r_1, h_1, h⟩ := bd_el h
  refine cl_i (rn_S X hP (c_X9_in h_1) k_646 k_647 k_9 k_648 hd_X9_in (n := 3) ⟨⟨rfl, rfl⟩, Nat.le_of_ble_eq_true rfl, Nat.le_of_ble_eq_true rfl⟩ (As := [.long (Int32.toInt64 a1), .long 1, .long 4]) (rest := []) rfl hl.1 rfl (Nat.le_of_ble_eq_true rfl) dX9_window_6 ⟨Nat.zero_le _, Nat.zero_le _⟩) hS (fun H locs hP hS => ?_)
  refine lv_if_ne (tgt := 15) hx hb dX9_window_9 (by decide) (fun hc => ?_) (fun hc => ?_)
  · replace h := if_eln h hc
    refine lv_aload_n hx hb dX9_window_15 rfl (lv_at hl 0 rfl) ?_
    refine gf_X9_117 X hP dX9_window_16 ?_
    obtain ⟨v_1, e_1, h⟩ := lt_el h
    refine r_topi e_1 ?_
    refine lv_istore_n (lv' := [(2, .int v_1), (0, .ref (B + 119)), (1, .int a1)]) hx hb dX9_window_19 rfl hl (by decide) rfl (fun ls hl => ?_)
    refine lv_aload_n hx hb dX9_window_20 rfl (lv_at hl 1 rfl) ?_
    refine lv_iload_n hx hb dX9_window_21 rfl (lv_at hl 2 rfl) ?_
    obtain ⟨M_1, e_2, h⟩ := lt_el h
    refine pf_X9_117 X hP hS e_2 dX9_window_22 (fun H locs hP hS => ?_)
    refine lv_iload_n hx hb dX9_window_25 rfl (lv_at hl 0 rfl) ?_
    exact r_iret X hP hS (pr1 h) (pr2 h) dX9_window_26
  · replace h := if_elp h hc
    refine lv_bipush (v := (-2)) hx hb dX9_window_12 (by decide) ?_
    exact r_iret X hP hS (pr1 h) (pr2 h) dX9_window_14
abbrev rmX9_run : Room := { frames := 8, cells := 0, slots := 0, locals := 187 }
def f_X9_run_19 : Nat → Mem → Int32 → Int32 → Int32 → Option (Int32 × Mem)
  | 0, _, _, _, _ => none
  | n + 1, M, v1, v2, v3 => if v1 ≤ v3 then (some (v2, M)) else (Option.bind (f_X9_many M 0) fun r_1 => if r_1 ≤ 0 then (some (v2, M)) else (Option.bind (f_X9_round M) fun r_2 => lt (v2 + r_2.1) fun v_1 => lt (v3 + 1) fun v_2 => (f_X9_run_19 n) r_2.2 v1 v_1 v_2))
set_option maxRecDepth 100000 in
set_option maxHeartbeats 4000000 in
theorem w_X9_run_19 (X : Cx p s m args meth c cX9_run RX9 4 (some .int) G cy) {out : Int32 × Mem} : ∀ n : Nat, ∀ (H : Heap) (locs : List Loc) (ls : Array Slot) (M : Mem) (v1 : Int32) (v2 : Int32) (v3 : Int32), Pic G B cy nT M H → va_S (FB B) s.heap H locs → lv_has ls 4 [(0, .ref (B + 119)), (1, .int v1), (2, .int v2), (3, .int v3)] → f_X9_run_19 n M v1 v2 v3 = some out → W p l e rmX9_run s m args below meth c H locs 0 0 (MQ below (Qi G B cy nT out.1 out.2) args s 0 0 (FB B)) (F0 m 19 ls []) := by
  obtain ⟨hx, hb, hr, hml, hown, hts, hKn, hlk⟩ := id X
  intro n
  induction n with
  | zero =>
    intro H locs ls M v1 v2 v3 hP hS hl h
    cases h
  | succ n ih =>
    intro H locs ls M v1 v2 v3 hP hS hl h
    rw [f_X9_run_19] at h
    refine lv_iload_n hx hb dX9_run_19 rfl (lv_at hl 3 rfl) ?_
    refine lv_iload_n hx hb dX9_run_20 rfl (lv_at hl 1 rfl) ?_
    refine lv_icmp_ge (tgt := 45) hx hb dX9_run_21 (by decide) (fun hc => ?_) (fun hc => ?_)
    · replace h := if_elp h hc
      refine lv_iload_n hx hb dX9_run_45 rfl (lv_at hl 2 rfl) ?_
      exact r_iret X hP hS (pr1 h) (pr2 h) dX9_run_46
    · replace h := if_eln h hc
      refine lv_aload_n hx hb dX9_run_24 rfl (lv_at hl 0 rfl) ?_
      refine lv_iconst (v := 0) hx hb dX9_run_25 (by decide) ?_
      obtain ⟨r_1, h_1, h⟩ := bd_el h
      refine cl_i (rn_V (C := RX9) (ci := 9) X hP (c_X9_many h_1) kq_119 rfl k_724 k_725 k_907 k_9 k_726 rfl hd_X9_many (n := 1) ⟨⟨rfl, rfl⟩, Nat.le_of_ble_eq_true rfl, Nat.le_of_ble_eq_true rfl⟩ (As := [.int 0]) (rest := []) rfl hl.1 rfl (Nat.le_of_ble_eq_true rfl) dX9_run_26 ⟨Nat.zero_le _, Nat.zero_le _⟩) hS (fun H locs hP hS => ?_)
      refine lv_if_le (tgt := 45) hx hb dX9_run_29 (by decide) (fun hc => ?_) (fun hc => ?_)
      · replace h := if_elp h hc
        refine lv_iload_n hx hb dX9_run_45 rfl (lv_at hl 2 rfl) ?_
        exact r_iret X hP hS (pr1 h) (pr2 h) dX9_run_46
      · replace h := if_eln h hc
        refine lv_iload_n hx hb dX9_run_32 rfl (lv_at hl 2 rfl) ?_
        refine lv_aload_n hx hb dX9_run_33 rfl (lv_at hl 0 rfl) ?_
        obtain ⟨r_2, h_2, h⟩ := bd_el h
        refine cl_i (rn_V (C := RX9) (ci := 9) X hP (c_X9_round h_2) kq_119 rfl k_727 k_728 k_908 k_9 k_729 rfl hd_X9_round (n := 0) ⟨⟨rfl, rfl⟩, Nat.le_of_ble_eq_true rfl, Nat.le_of_ble_eq_true rfl⟩ (As := []) (rest := [.int v2]) rfl hl.1 rfl (Nat.le_of_ble_eq_true rfl) dX9_run_34 ⟨Nat.zero_le _, Nat.zero_le _⟩) hS (fun H locs hP hS => ?_)
        refine lv_iadd hx hb dX9_run_37 ?_
        obtain ⟨v_1, e_1, h⟩ := lt_el h
        refine r_topi e_1 ?_
        refine lv_istore_n (lv' := [(2, .int v_1), (0, .ref (B + 119)), (1, .int v1), (3, .int v3)]) hx hb dX9_run_38 rfl hl (by decide) rfl (fun ls hl => ?_)
        obtain ⟨v_2, e_2, h⟩ := lt_el h
        refine lv_iinc (v := v_2) (lv' := [(3, .int v_2), (2, .int v_1), (0, .ref (B + 119)), (1, .int v1)]) hx hb dX9_run_39 hl (k := 3) rfl (by rw [e_2]; rfl) (by decide) rfl (fun ls hl => ?_)
        refine lv_goto (tgt := 19) hx hb dX9_run_42 (by decide) ?_
        exact ih _ _ _ _ _ _ _ hP hS (lv_sub hl [2, 3, 1, 0] rfl) h
def f_X9_run (M : Mem) (a1 : Int32) : Option (Int32 × Mem) :=
  Option.bind (f_X9_in (Int32.toInt64 a1) 1 100) fun r_1 => if (bI r_1) = 0 then (some ((-2), M)) else (f_X9_run_19 FU M a1 0 0)
set_option maxRecDepth 100000 in
set_option maxHeartbeats 4000000 in
theorem c_X9_run {l : Launch} {G : va_G} {cy : Nat → ClassId} {B nT : Nat} {M : Mem} {a1 : Int32} {out : Int32 × Mem} (h : f_X9_run M a1 = some out) : Met l yX9_run (wsU yX9_run cX9_run 4 (some .int)) rmX9_run (va_Pc [.ref (B + 119), .int a1] (PU G B cy nT M)) (Qi G B cy nT out.1 out.2) 0 0 (FB B) := by
  refine r_met (by decide +kernel) RX9 rfl (Nat.le_of_ble_eq_true rfl) ?_
  intro p e s m args below meth c ls X hP hl
  have hl : lv_has ls 4 [(0, .ref (B + 119)), (1, .int a1)] := hl
  have hS : va_S (FB B) s.heap s.heap [] := va_S.rf
  obtain ⟨hx, hb, hr, hml, hown, hts, hKn, hlk⟩ := id X
  unfold f_X9_run at h
  refine lv_iload_n hx hb dX9_run_0 rfl (lv_at hl 1 rfl) ?_
  refine lv_i2l (v := (Int32.toInt64 a1)) hx hb dX9_run_1 rfl ?_
  refine lv_lconst (v := 1) hx hb dX9_run_2 rfl ?_
  refine lv_ldc2 (v := 100) hx hb hown (hts _ k_723) dX9_run_3 ?_
  obtain ⟨r_1, h_1, h⟩ := bd_el h
  refine cl_i (rn_S X hP (c_X9_in h_1) k_646 k_647 k_9 k_648 hd_X9_in (n := 3) ⟨⟨rfl, rfl⟩, Nat.le_of_ble_eq_true rfl, Nat.le_of_ble_eq_true rfl⟩ (As := [.long (Int32.toInt64 a1), .long 1, .long 100]) (rest := []) rfl hl.1 rfl (Nat.le_of_ble_eq_true rfl) dX9_run_6 ⟨Nat.zero_le _, Nat.zero_le _⟩) hS (fun H locs hP hS => ?_)
  refine lv_if_ne (tgt := 15) hx hb dX9_run_9 (by decide) (fun hc => ?_) (fun hc => ?_)
  · replace h := if_eln h hc
    refine lv_iconst (v := 0) hx hb dX9_run_15 (by decide) ?_
    refine lv_istore_n (lv' := [(2, .int 0), (0, .ref (B + 119)), (1, .int a1)]) hx hb dX9_run_16 rfl hl (by decide) rfl (fun ls hl => ?_)
    refine lv_iconst (v := 0) hx hb dX9_run_17 (by decide) ?_
    refine lv_istore_n (lv' := [(3, .int 0), (2, .int 0), (0, .ref (B + 119)), (1, .int a1)]) hx hb dX9_run_18 rfl hl (by decide) rfl (fun ls hl => ?_)
    exact w_X9_run_19 X FU _ _ _ _ _ _ _ hP hS (lv_sub hl [2, 3, 1, 0] rfl) h
  · replace h := if_elp h hc
    refine lv_bipush (v := (-2)) hx hb dX9_run_12 (by decide) ?_
    exact r_iret X hP hS (pr1 h) (pr2 h) dX9_run_14
abbrev rmX9_ticket : Room := { frames := 2, cells := 0, slots := 0, locals := 46 }
def f_X9_ticket (M : Mem) (a1 : Int32) (a2 : Int32) : Option (Int32) :=
  Option.bind (f_X9_isTicket M a1) fun r_1 => if (bI r_1) = 0 then (some (-2)) else (if a2 = 0 then (gd (inR a1 20) <| some (gI M 138 a1.toNatClampNeg)) else if a2 = 1 then (gd (inR a1 20) <| some (gI M 137 a1.toNatClampNeg)) else if a2 = 2 then (gd (inR a1 20) <| some (gI M 139 a1.toNatClampNeg)) else if a2 = 3 then (gd (inR a1 20) <| some (gI M 141 a1.toNatClampNeg)) else if a2 = 4 then (gd (inR a1 20) <| some (gI M 142 a1.toNatClampNeg)) else if a2 = 5 then (gd (inR a1 20) <| some (gI M 143 a1.toNatClampNeg)) else if a2 = 6 then (gd (inR a1 20) <| some (gI M 140 a1.toNatClampNeg)) else some (-2))
set_option maxRecDepth 100000 in
set_option maxHeartbeats 4000000 in
theorem c_X9_ticket {l : Launch} {G : va_G} {cy : Nat → ClassId} {B nT : Nat} {M : Mem} {a1 : Int32} {a2 : Int32} {out : Int32} (h : f_X9_ticket M a1 a2 = some out) : Met l yX9_ticket (wsU yX9_ticket cX9_ticket 3 (some .int)) rmX9_ticket (va_Pc [.ref (B + 119), .int a1, .int a2] (PU G B cy nT M)) (Qi G B cy nT out M) 0 0 (FB B) := by
  refine r_met (by decide +kernel) RX9 rfl (Nat.le_of_ble_eq_true rfl) ?_
  intro p e s m args below meth c ls X hP hl
  have hl : lv_has ls 3 [(0, .ref (B + 119)), (1, .int a1), (2, .int a2)] := hl
  have hS : va_S (FB B) s.heap s.heap [] := va_S.rf
  obtain ⟨hx, hb, hr, hml, hown, hts, hKn, hlk⟩ := id X
  unfold f_X9_ticket at h
  refine lv_aload_n hx hb dX9_ticket_0 rfl (lv_at hl 0 rfl) ?_
  refine lv_iload_n hx hb dX9_ticket_1 rfl (lv_at hl 1 rfl) ?_
  obtain ⟨r_1, h_1, h⟩ := bd_el h
  refine cl_i (rn_V (C := RX9) (ci := 9) X hP (c_X9_isTicket h_1) kq_119 rfl k_822 k_823 k_935 k_9 k_824 rfl hd_X9_isTicket (n := 1) ⟨⟨rfl, rfl⟩, Nat.le_of_ble_eq_true rfl, Nat.le_of_ble_eq_true rfl⟩ (As := [.int a1]) (rest := []) rfl hl.1 rfl (Nat.le_of_ble_eq_true rfl) dX9_ticket_2 ⟨Nat.zero_le _, Nat.zero_le _⟩) hS (fun H locs hP hS => ?_)
  refine lv_if_ne (tgt := 11) hx hb dX9_ticket_5 (by decide) (fun hc => ?_) (fun hc => ?_)
  · replace h := if_eln h hc
    refine lv_iload_n hx hb dX9_ticket_11 rfl (lv_at hl 2 rfl) ?_
    by_cases h_2 : a2 = 0
    · replace h := if_elp h h_2
      refine lv_tableIn (off := 44) (tgt := 56) hx hb dX9_ticket_12 (by rw [h_2]; decide) (by rw [h_2]; decide) (by rw [h_2]; rfl) (by decide) ?_
      refine lv_aload_n hx hb dX9_ticket_56 rfl (lv_at hl 0 rfl) ?_
      refine gf_X9_65 X hP dX9_ticket_57 ?_
      refine lv_iload_n hx hb dX9_ticket_60 rfl (lv_at hl 1 rfl) ?_
      obtain ⟨g_1, h⟩ := gd_el h
      refine r_iald X hP kq_138 g_1 dX9_ticket_61 ?_
      exact r_iret X hP hS (pr0 h) rfl dX9_ticket_62
    · replace h := if_eln h h_2
      by_cases h_3 : a2 = 1
      · replace h := if_elp h h_3
        refine lv_tableIn (off := 51) (tgt := 63) hx hb dX9_ticket_12 (by rw [h_3]; decide) (by rw [h_3]; decide) (by rw [h_3]; rfl) (by decide) ?_
        refine lv_aload_n hx hb dX9_ticket_63 rfl (lv_at hl 0 rfl) ?_
        refine gf_X9_62 X hP dX9_ticket_64 ?_
        refine lv_iload_n hx hb dX9_ticket_67 rfl (lv_at hl 1 rfl) ?_
        obtain ⟨g_2, h⟩ := gd_el h
        refine r_iald X hP kq_137 g_2 dX9_ticket_68 ?_
        exact r_iret X hP hS (pr0 h) rfl dX9_ticket_69
      · replace h := if_eln h h_3
        by_cases h_4 : a2 = 2
        · replace h := if_elp h h_4
          refine lv_tableIn (off := 58) (tgt := 70) hx hb dX9_ticket_12 (by rw [h_4]; decide) (by rw [h_4]; decide) (by rw [h_4]; rfl) (by decide) ?_
          refine lv_aload_n hx hb dX9_ticket_70 rfl (lv_at hl 0 rfl) ?_
          refine gf_X9_68 X hP dX9_ticket_71 ?_
          refine lv_iload_n hx hb dX9_ticket_74 rfl (lv_at hl 1 rfl) ?_
          obtain ⟨g_3, h⟩ := gd_el h
          refine r_iald X hP kq_139 g_3 dX9_ticket_75 ?_
          exact r_iret X hP hS (pr0 h) rfl dX9_ticket_76
        · replace h := if_eln h h_4
          by_cases h_5 : a2 = 3
          · replace h := if_elp h h_5
            refine lv_tableIn (off := 65) (tgt := 77) hx hb dX9_ticket_12 (by rw [h_5]; decide) (by rw [h_5]; decide) (by rw [h_5]; rfl) (by decide) ?_
            refine lv_aload_n hx hb dX9_ticket_77 rfl (lv_at hl 0 rfl) ?_
            refine gf_X9_74 X hP dX9_ticket_78 ?_
            refine lv_iload_n hx hb dX9_ticket_81 rfl (lv_at hl 1 rfl) ?_
            obtain ⟨g_4, h⟩ := gd_el h
            refine r_iald X hP kq_141 g_4 dX9_ticket_82 ?_
            exact r_iret X hP hS (pr0 h) rfl dX9_ticket_83
          · replace h := if_eln h h_5
            by_cases h_6 : a2 = 4
            · replace h := if_elp h h_6
              refine lv_tableIn (off := 72) (tgt := 84) hx hb dX9_ticket_12 (by rw [h_6]; decide) (by rw [h_6]; decide) (by rw [h_6]; rfl) (by decide) ?_
              refine lv_aload_n hx hb dX9_ticket_84 rfl (lv_at hl 0 rfl) ?_
              refine gf_X9_77 X hP dX9_ticket_85 ?_
              refine lv_iload_n hx hb dX9_ticket_88 rfl (lv_at hl 1 rfl) ?_
              obtain ⟨g_5, h⟩ := gd_el h
              refine r_iald X hP kq_142 g_5 dX9_ticket_89 ?_
              exact r_iret X hP hS (pr0 h) rfl dX9_ticket_90
            · replace h := if_eln h h_6
              by_cases h_7 : a2 = 5
              · replace h := if_elp h h_7
                refine lv_tableIn (off := 79) (tgt := 91) hx hb dX9_ticket_12 (by rw [h_7]; decide) (by rw [h_7]; decide) (by rw [h_7]; rfl) (by decide) ?_
                refine lv_aload_n hx hb dX9_ticket_91 rfl (lv_at hl 0 rfl) ?_
                refine gf_X9_80 X hP dX9_ticket_92 ?_
                refine lv_iload_n hx hb dX9_ticket_95 rfl (lv_at hl 1 rfl) ?_
                obtain ⟨g_6, h⟩ := gd_el h
                refine r_iald X hP kq_143 g_6 dX9_ticket_96 ?_
                exact r_iret X hP hS (pr0 h) rfl dX9_ticket_97
              · replace h := if_eln h h_7
                by_cases h_8 : a2 = 6
                · replace h := if_elp h h_8
                  refine lv_tableIn (off := 86) (tgt := 98) hx hb dX9_ticket_12 (by rw [h_8]; decide) (by rw [h_8]; decide) (by rw [h_8]; rfl) (by decide) ?_
                  refine lv_aload_n hx hb dX9_ticket_98 rfl (lv_at hl 0 rfl) ?_
                  refine gf_X9_71 X hP dX9_ticket_99 ?_
                  refine lv_iload_n hx hb dX9_ticket_102 rfl (lv_at hl 1 rfl) ?_
                  obtain ⟨g_7, h⟩ := gd_el h
                  refine r_iald X hP kq_140 g_7 dX9_ticket_103 ?_
                  exact r_iret X hP hS (pr0 h) rfl dX9_ticket_104
                · replace h := if_eln h h_8
                  refine lv_tableOut (tgt := 105) hx hb dX9_ticket_12 (by have z0 := lv_neT (a := 0) h_2 rfl; have z1 := lv_neT (a := 1) h_3 rfl; have z2 := lv_neT (a := 2) h_4 rfl; have z3 := lv_neT (a := 3) h_5 rfl; have z4 := lv_neT (a := 4) h_6 rfl; have z5 := lv_neT (a := 5) h_7 rfl; have z6 := lv_neT (a := 6) h_8 rfl; omega) (by decide) ?_
                  refine lv_bipush (v := (-2)) hx hb dX9_ticket_105 (by decide) ?_
                  exact r_iret X hP hS (pr0 h) rfl dX9_ticket_107
  · replace h := if_elp h hc
    refine lv_bipush (v := (-2)) hx hb dX9_ticket_8 (by decide) ?_
    exact r_iret X hP hS (pr0 h) rfl dX9_ticket_10
abbrev rmX9_answer : Room := { frames := 2, cells := 0, slots := 0, locals := 46 }
def f_X9_answer (M : Mem) (a1 : Int32) (a2 : Int32) : Option (Int64) :=
  Option.bind (f_X9_isTicket M a1) fun r_1 => if (bI r_1) = 0 then (some 0) else (gd (inR a1 20) <| if (gI M 138 a1.toNatClampNeg) = 1 then (Option.bind (f_X9_in (Int32.toInt64 a2) 0 7) fun r_2 => if (bI r_2) = 0 then (some 0) else (gd (inR a1 20) <| if (gI M 147 a1.toNatClampNeg) ≤ a2 then (some 0) else (gd (inR ((8 * a1) + a2) 160) <| some (gL M 146 ((8 * a1) + a2).toNatClampNeg)))) else (some 0))
set_option maxRecDepth 100000 in
set_option maxHeartbeats 4000000 in
theorem c_X9_answer {l : Launch} {G : va_G} {cy : Nat → ClassId} {B nT : Nat} {M : Mem} {a1 : Int32} {a2 : Int32} {out : Int64} (h : f_X9_answer M a1 a2 = some out) : Met l yX9_answer (wsU yX9_answer cX9_answer 3 (some .long)) rmX9_answer (va_Pc [.ref (B + 119), .int a1, .int a2] (PU G B cy nT M)) (Ql G B cy nT out M) 0 0 (FB B) := by
  refine r_met (by decide +kernel) RX9 rfl (Nat.le_of_ble_eq_true rfl) ?_
  intro p e s m args below meth c ls X hP hl
  have hl : lv_has ls 3 [(0, .ref (B + 119)), (1, .int a1), (2, .int a2)] := hl
  have hS : va_S (FB B) s.heap s.heap [] := va_S.rf
  obtain ⟨hx, hb, hr, hml, hown, hts, hKn, hlk⟩ := id X
  unfold f_X9_answer at h
  refine lv_aload_n hx hb dX9_answer_0 rfl (lv_at hl 0 rfl) ?_
  refine lv_iload_n hx hb dX9_answer_1 rfl (lv_at hl 1 rfl) ?_
  obtain ⟨r_1, h_1, h⟩ := bd_el h
  refine cl_i (rn_V (C := RX9) (ci := 9) X hP (c_X9_isTicket h_1) kq_119 rfl k_822 k_823 k_935 k_9 k_824 rfl hd_X9_isTicket (n := 1) ⟨⟨rfl, rfl⟩, Nat.le_of_ble_eq_true rfl, Nat.le_of_ble_eq_true rfl⟩ (As := [.int a1]) (rest := []) rfl hl.1 rfl (Nat.le_of_ble_eq_true rfl) dX9_answer_2 ⟨Nat.zero_le _, Nat.zero_le _⟩) hS (fun H locs hP hS => ?_)
  refine lv_if_eq (tgt := 54) hx hb dX9_answer_5 (by decide) (fun hc => ?_) (fun hc => ?_)
  · replace h := if_elp h hc
    refine lv_lconst (v := 0) hx hb dX9_answer_54 rfl ?_
    exact r_lret X hP hS (pr0 h) rfl dX9_answer_55
  · replace h := if_eln h hc
    refine lv_aload_n hx hb dX9_answer_8 rfl (lv_at hl 0 rfl) ?_
    refine gf_X9_65 X hP dX9_answer_9 ?_
    refine lv_iload_n hx hb dX9_answer_12 rfl (lv_at hl 1 rfl) ?_
    obtain ⟨g_1, h⟩ := gd_el h
    refine r_iald X hP kq_138 g_1 dX9_answer_13 ?_
    refine lv_iconst (v := 1) hx hb dX9_answer_14 (by decide) ?_
    refine lv_icmp_ne (tgt := 54) hx hb dX9_answer_15 (by decide) (fun hc => ?_) (fun hc => ?_)
    · replace h := if_eln h hc
      refine lv_lconst (v := 0) hx hb dX9_answer_54 rfl ?_
      exact r_lret X hP hS (pr0 h) rfl dX9_answer_55
    · replace h := if_elp h hc
      refine lv_iload_n hx hb dX9_answer_18 rfl (lv_at hl 2 rfl) ?_
      refine lv_i2l (v := (Int32.toInt64 a2)) hx hb dX9_answer_19 rfl ?_
      refine lv_lconst (v := 0) hx hb dX9_answer_20 rfl ?_
      refine lv_ldc2 (v := 7) hx hb hown (hts _ k_656) dX9_answer_21 ?_
      obtain ⟨r_2, h_2, h⟩ := bd_el h
      refine cl_i (rn_S X hP (c_X9_in h_2) k_646 k_647 k_9 k_648 hd_X9_in (n := 3) ⟨⟨rfl, rfl⟩, Nat.le_of_ble_eq_true rfl, Nat.le_of_ble_eq_true rfl⟩ (As := [.long (Int32.toInt64 a2), .long 0, .long 7]) (rest := []) rfl hl.1 rfl (Nat.le_of_ble_eq_true rfl) dX9_answer_24 ⟨Nat.zero_le _, Nat.zero_le _⟩) hS (fun H locs hP hS => ?_)
      refine lv_if_eq (tgt := 54) hx hb dX9_answer_27 (by decide) (fun hc => ?_) (fun hc => ?_)
      · replace h := if_elp h hc
        refine lv_lconst (v := 0) hx hb dX9_answer_54 rfl ?_
        exact r_lret X hP hS (pr0 h) rfl dX9_answer_55
      · replace h := if_eln h hc
        refine lv_iload_n hx hb dX9_answer_30 rfl (lv_at hl 2 rfl) ?_
        refine lv_aload_n hx hb dX9_answer_31 rfl (lv_at hl 0 rfl) ?_
        refine gf_X9_92 X hP dX9_answer_32 ?_
        refine lv_iload_n hx hb dX9_answer_35 rfl (lv_at hl 1 rfl) ?_
        obtain ⟨g_2, h⟩ := gd_el h
        refine r_iald X hP kq_147 g_2 dX9_answer_36 ?_
        refine lv_icmp_ge (tgt := 54) hx hb dX9_answer_37 (by decide) (fun hc => ?_) (fun hc => ?_)
        · replace h := if_elp h hc
          refine lv_lconst (v := 0) hx hb dX9_answer_54 rfl ?_
          exact r_lret X hP hS (pr0 h) rfl dX9_answer_55
        · replace h := if_eln h hc
          refine lv_aload_n hx hb dX9_answer_40 rfl (lv_at hl 0 rfl) ?_
          refine gf_X9_89 X hP dX9_answer_41 ?_
          refine lv_bipush (v := 8) hx hb dX9_answer_44 (by decide) ?_
          refine lv_iload_n hx hb dX9_answer_46 rfl (lv_at hl 1 rfl) ?_
          refine lv_imul hx hb dX9_answer_47 ?_
          refine lv_iload_n hx hb dX9_answer_48 rfl (lv_at hl 2 rfl) ?_
          refine lv_iadd hx hb dX9_answer_49 ?_
          obtain ⟨g_3, h⟩ := gd_el h
          refine r_lald X hP kq_146 g_3 dX9_answer_50 ?_
          refine lv_goto (tgt := 55) hx hb dX9_answer_51 (by decide) ?_
          exact r_lret X hP hS (pr0 h) rfl dX9_answer_55
abbrev rmX9_tried : Room := { frames := 2, cells := 0, slots := 0, locals := 46 }
def f_X9_tried_67 (M : Mem) (K39 : Int32 → Int32 → Int32 → Int32 → Option (Int32)) (v1 : Int32) (v2 : Int32) (v4 : Int32) (s0 : Int32) (s1 : Int32) : Option (Int32) :=
  lt (s1 + s0) fun v_1 => lt (v4 + 1) fun v_2 => K39 v1 v2 v_1 v_2
set_option maxRecDepth 100000 in
set_option maxHeartbeats 4000000 in
theorem w_X9_tried_67 (X : Cx p s m args meth c cX9_tried RX9 5 (some .int) G cy) {M : Mem} {out : Int32} {K39 : Int32 → Int32 → Int32 → Int32 → Option (Int32)} (hK39 : ∀ (H : Heap) (locs : List Loc) (ls : Array Slot) (v1 : Int32) (v2 : Int32) (v3 : Int32) (v4 : Int32), Pic G B cy nT M H → va_S (FB B) s.heap H locs → lv_has ls 5 [(0, .ref (B + 119)), (1, .int v1), (2, .int v2), (3, .int v3), (4, .int v4)] → K39 v1 v2 v3 v4 = some out → W p l e rmX9_tried s m args below meth c H locs 0 0 (MQ below (Qi G B cy nT out M) args s 0 0 (FB B)) (F0 m 39 ls [])) {v1 : Int32} {v2 : Int32} {v4 : Int32} {s0 : Int32} {s1 : Int32} (hP : Pic G B cy nT M H) (hS : va_S (FB B) s.heap H locs) (hl : lv_has ls 5 [(0, .ref (B + 119)), (1, .int v1), (2, .int v2), (4, .int v4)]) (h : f_X9_tried_67 M K39 v1 v2 v4 s0 s1 = some out) : W p l e rmX9_tried s m args below meth c H locs 0 0 (MQ below (Qi G B cy nT out M) args s 0 0 (FB B)) (F0 m 67 ls [.int s0, .int s1]) := by
  obtain ⟨hx, hb, hr, hml, hown, hts, hKn, hlk⟩ := id X
  unfold f_X9_tried_67 at h
  refine lv_iadd hx hb dX9_tried_67 ?_
  obtain ⟨v_1, e_1, h⟩ := lt_el h
  refine r_topi e_1 ?_
  refine lv_istore_n (lv' := [(3, .int v_1), (0, .ref (B + 119)), (1, .int v1), (2, .int v2), (4, .int v4)]) hx hb dX9_tried_68 rfl hl (by decide) rfl (fun ls hl => ?_)
  obtain ⟨v_2, e_2, h⟩ := lt_el h
  refine lv_iinc (v := v_2) (lv' := [(4, .int v_2), (3, .int v_1), (0, .ref (B + 119)), (1, .int v1), (2, .int v2)]) hx hb dX9_tried_69 hl (k := 4) rfl (by rw [e_2]; rfl) (by decide) rfl (fun ls hl => ?_)
  refine lv_goto (tgt := 39) hx hb dX9_tried_72 (by decide) ?_
  exact hK39 _ _ _ _ _ _ _ hP hS (lv_sub hl [2, 3, 4, 1, 0] rfl) h
def f_X9_tried_39 (M : Mem) : Nat → Int32 → Int32 → Int32 → Int32 → Option (Int32)
  | 0, _, _, _, _ => none
  | n + 1, v1, v2, v3, v4 => if 40 ≤ v4 then (if v2 = 0 then (gd (inR v1 20) <| some (gI M 149 v1.toNatClampNeg)) else (if v2 = 1 then (some v3) else (if v2 = 2 then (gd (inR v1 20) <| some (gI M 150 v1.toNatClampNeg)) else (gd (inR v1 20) <| some (gI M 152 v1.toNatClampNeg))))) else (gd (inR ((40 * v1) + v4) 800) <| if (bI (gB M 151 ((40 * v1) + v4).toNatClampNeg)) = 0 then (f_X9_tried_67 M (f_X9_tried_39 M n) v1 v2 v4 0 v3) else (f_X9_tried_67 M (f_X9_tried_39 M n) v1 v2 v4 1 v3))
set_option maxRecDepth 100000 in
set_option maxHeartbeats 4000000 in
theorem w_X9_tried_39 (X : Cx p s m args meth c cX9_tried RX9 5 (some .int) G cy) {M : Mem} {out : Int32} : ∀ n : Nat, ∀ (H : Heap) (locs : List Loc) (ls : Array Slot) (v1 : Int32) (v2 : Int32) (v3 : Int32) (v4 : Int32), Pic G B cy nT M H → va_S (FB B) s.heap H locs → lv_has ls 5 [(0, .ref (B + 119)), (1, .int v1), (2, .int v2), (3, .int v3), (4, .int v4)] → f_X9_tried_39 M n v1 v2 v3 v4 = some out → W p l e rmX9_tried s m args below meth c H locs 0 0 (MQ below (Qi G B cy nT out M) args s 0 0 (FB B)) (F0 m 39 ls []) := by
  obtain ⟨hx, hb, hr, hml, hown, hts, hKn, hlk⟩ := id X
  intro n
  induction n with
  | zero =>
    intro H locs ls v1 v2 v3 v4 hP hS hl h
    cases h
  | succ n ih =>
    intro H locs ls v1 v2 v3 v4 hP hS hl h
    rw [f_X9_tried_39] at h
    refine lv_iload hx hb dX9_tried_39 (lv_at hl 4 rfl) ?_
    refine lv_bipush (v := 40) hx hb dX9_tried_41 (by decide) ?_
    refine lv_icmp_ge (tgt := 75) hx hb dX9_tried_43 (by decide) (fun hc => ?_) (fun hc => ?_)
    · replace h := if_elp h hc
      refine lv_iload_n hx hb dX9_tried_75 rfl (lv_at hl 2 rfl) ?_
      refine lv_if_ne (tgt := 88) hx hb dX9_tried_76 (by decide) (fun hc => ?_) (fun hc => ?_)
      · replace h := if_eln h hc
        refine lv_iload_n hx hb dX9_tried_88 rfl (lv_at hl 2 rfl) ?_
        refine lv_iconst (v := 1) hx hb dX9_tried_89 (by decide) ?_
        refine lv_icmp_ne (tgt := 97) hx hb dX9_tried_90 (by decide) (fun hc => ?_) (fun hc => ?_)
        · replace h := if_eln h hc
          refine lv_iload_n hx hb dX9_tried_97 rfl (lv_at hl 2 rfl) ?_
          refine lv_iconst (v := 2) hx hb dX9_tried_98 (by decide) ?_
          refine lv_icmp_ne (tgt := 111) hx hb dX9_tried_99 (by decide) (fun hc => ?_) (fun hc => ?_)
          · replace h := if_eln h hc
            refine lv_aload_n hx hb dX9_tried_111 rfl (lv_at hl 0 rfl) ?_
            refine gf_X9_108 X hP dX9_tried_112 ?_
            refine lv_iload_n hx hb dX9_tried_115 rfl (lv_at hl 1 rfl) ?_
            obtain ⟨g_1, h⟩ := gd_el h
            refine r_iald X hP kq_152 g_1 dX9_tried_116 ?_
            exact r_iret X hP hS (pr0 h) rfl dX9_tried_117
          · replace h := if_elp h hc
            refine lv_aload_n hx hb dX9_tried_102 rfl (lv_at hl 0 rfl) ?_
            refine gf_X9_102 X hP dX9_tried_103 ?_
            refine lv_iload_n hx hb dX9_tried_106 rfl (lv_at hl 1 rfl) ?_
            obtain ⟨g_2, h⟩ := gd_el h
            refine r_iald X hP kq_150 g_2 dX9_tried_107 ?_
            refine lv_goto (tgt := 117) hx hb dX9_tried_108 (by decide) ?_
            exact r_iret X hP hS (pr0 h) rfl dX9_tried_117
        · replace h := if_elp h hc
          refine lv_iload_n hx hb dX9_tried_93 rfl (lv_at hl 3 rfl) ?_
          refine lv_goto (tgt := 117) hx hb dX9_tried_94 (by decide) ?_
          exact r_iret X hP hS (pr0 h) rfl dX9_tried_117
      · replace h := if_elp h hc
        refine lv_aload_n hx hb dX9_tried_79 rfl (lv_at hl 0 rfl) ?_
        refine gf_X9_99 X hP dX9_tried_80 ?_
        refine lv_iload_n hx hb dX9_tried_83 rfl (lv_at hl 1 rfl) ?_
        obtain ⟨g_3, h⟩ := gd_el h
        refine r_iald X hP kq_149 g_3 dX9_tried_84 ?_
        refine lv_goto (tgt := 117) hx hb dX9_tried_85 (by decide) ?_
        exact r_iret X hP hS (pr0 h) rfl dX9_tried_117
    · replace h := if_eln h hc
      refine lv_iload_n hx hb dX9_tried_46 rfl (lv_at hl 3 rfl) ?_
      refine lv_aload_n hx hb dX9_tried_47 rfl (lv_at hl 0 rfl) ?_
      refine gf_X9_105 X hP dX9_tried_48 ?_
      refine lv_bipush (v := 40) hx hb dX9_tried_51 (by decide) ?_
      refine lv_iload_n hx hb dX9_tried_53 rfl (lv_at hl 1 rfl) ?_
      refine lv_imul hx hb dX9_tried_54 ?_
      refine lv_iload hx hb dX9_tried_55 (lv_at hl 4 rfl) ?_
      refine lv_iadd hx hb dX9_tried_57 ?_
      obtain ⟨g_4, h⟩ := gd_el h
      refine r_zald X hP kq_151 g_4 dX9_tried_58 ?_
      refine lv_if_eq (tgt := 66) hx hb dX9_tried_59 (by decide) (fun hc => ?_) (fun hc => ?_)
      · replace h := if_elp h hc
        refine lv_iconst (v := 0) hx hb dX9_tried_66 (by decide) ?_
        exact w_X9_tried_67 X ih hP hS (lv_sub hl [0, 1, 2, 4] rfl) h
      · replace h := if_eln h hc
        refine lv_iconst (v := 1) hx hb dX9_tried_62 (by decide) ?_
        refine lv_goto (tgt := 67) hx hb dX9_tried_63 (by decide) ?_
        exact w_X9_tried_67 X ih hP hS (lv_sub hl [0, 1, 2, 4] rfl) h
def f_X9_tried (M : Mem) (a1 : Int32) (a2 : Int32) : Option (Int32) :=
  Option.bind (f_X9_isTicket M a1) fun r_1 => if (bI r_1) = 0 then (some (-2)) else (Option.bind (f_X9_in (Int32.toInt64 a2) 0 3) fun r_2 => if (bI r_2) = 0 then (some (-2)) else (gd (inR a1 20) <| if (bI (gB M 148 a1.toNatClampNeg)) = 0 then (some (-1)) else (f_X9_tried_39 M FU a1 a2 0 0)))
set_option maxRecDepth 100000 in
set_option maxHeartbeats 4000000 in
theorem c_X9_tried {l : Launch} {G : va_G} {cy : Nat → ClassId} {B nT : Nat} {M : Mem} {a1 : Int32} {a2 : Int32} {out : Int32} (h : f_X9_tried M a1 a2 = some out) : Met l yX9_tried (wsU yX9_tried cX9_tried 5 (some .int)) rmX9_tried (va_Pc [.ref (B + 119), .int a1, .int a2] (PU G B cy nT M)) (Qi G B cy nT out M) 0 0 (FB B) := by
  refine r_met (by decide +kernel) RX9 rfl (Nat.le_of_ble_eq_true rfl) ?_
  intro p e s m args below meth c ls X hP hl
  have hl : lv_has ls 5 [(0, .ref (B + 119)), (1, .int a1), (2, .int a2)] := hl
  have hS : va_S (FB B) s.heap s.heap [] := va_S.rf
  obtain ⟨hx, hb, hr, hml, hown, hts, hKn, hlk⟩ := id X
  unfold f_X9_tried at h
  refine lv_aload_n hx hb dX9_tried_0 rfl (lv_at hl 0 rfl) ?_
  refine lv_iload_n hx hb dX9_tried_1 rfl (lv_at hl 1 rfl) ?_
  obtain ⟨r_1, h_1, h⟩ := bd_el h
  refine cl_i (rn_V (C := RX9) (ci := 9) X hP (c_X9_isTicket h_1) kq_119 rfl k_822 k_823 k_935 k_9 k_824 rfl hd_X9_isTicket (n := 1) ⟨⟨rfl, rfl⟩, Nat.le_of_ble_eq_true rfl, Nat.le_of_ble_eq_true rfl⟩ (As := [.int a1]) (rest := []) rfl hl.1 rfl (Nat.le_of_ble_eq_true rfl) dX9_tried_2 ⟨Nat.zero_le _, Nat.zero_le _⟩) hS (fun H locs hP hS => ?_)
  refine lv_if_eq (tgt := 20) hx hb dX9_tried_5 (by decide) (fun hc => ?_) (fun hc => ?_)
  · replace h := if_elp h hc
    refine lv_bipush (v := (-2)) hx hb dX9_tried_20 (by decide) ?_
    exact r_iret X hP hS (pr0 h) rfl dX9_tried_22
  · replace h := if_eln h hc
    refine lv_iload_n hx hb dX9_tried_8 rfl (lv_at hl 2 rfl) ?_
    refine lv_i2l (v := (Int32.toInt64 a2)) hx hb dX9_tried_9 rfl ?_
    refine lv_lconst (v := 0) hx hb dX9_tried_10 rfl ?_
    refine lv_ldc2 (v := 3) hx hb hown (hts _ k_709) dX9_tried_11 ?_
    obtain ⟨r_2, h_2, h⟩ := bd_el h
    refine cl_i (rn_S X hP (c_X9_in h_2) k_646 k_647 k_9 k_648 hd_X9_in (n := 3) ⟨⟨rfl, rfl⟩, Nat.le_of_ble_eq_true rfl, Nat.le_of_ble_eq_true rfl⟩ (As := [.long (Int32.toInt64 a2), .long 0, .long 3]) (rest := []) rfl hl.1 rfl (Nat.le_of_ble_eq_true rfl) dX9_tried_14 ⟨Nat.zero_le _, Nat.zero_le _⟩) hS (fun H locs hP hS => ?_)
    refine lv_if_ne (tgt := 23) hx hb dX9_tried_17 (by decide) (fun hc => ?_) (fun hc => ?_)
    · replace h := if_eln h hc
      refine lv_aload_n hx hb dX9_tried_23 rfl (lv_at hl 0 rfl) ?_
      refine gf_X9_95 X hP dX9_tried_24 ?_
      refine lv_iload_n hx hb dX9_tried_27 rfl (lv_at hl 1 rfl) ?_
      obtain ⟨g_1, h⟩ := gd_el h
      refine r_zald X hP kq_148 g_1 dX9_tried_28 ?_
      refine lv_if_ne (tgt := 34) hx hb dX9_tried_29 (by decide) (fun hc => ?_) (fun hc => ?_)
      · replace h := if_eln h hc
        refine lv_iconst (v := 0) hx hb dX9_tried_34 (by decide) ?_
        refine lv_istore_n (lv' := [(3, .int 0), (0, .ref (B + 119)), (1, .int a1), (2, .int a2)]) hx hb dX9_tried_35 rfl hl (by decide) rfl (fun ls hl => ?_)
        refine lv_iconst (v := 0) hx hb dX9_tried_36 (by decide) ?_
        refine lv_istore (lv' := [(4, .int 0), (3, .int 0), (0, .ref (B + 119)), (1, .int a1), (2, .int a2)]) hx hb dX9_tried_37 hl (by decide) rfl (fun ls hl => ?_)
        exact w_X9_tried_39 X FU _ _ _ _ _ _ _ hP hS (lv_sub hl [2, 3, 4, 1, 0] rfl) h
      · replace h := if_elp h hc
        refine lv_iconst (v := (-1)) hx hb dX9_tried_32 (by decide) ?_
        exact r_iret X hP hS (pr0 h) rfl dX9_tried_33
    · replace h := if_elp h hc
      refine lv_bipush (v := (-2)) hx hb dX9_tried_20 (by decide) ?_
      exact r_iret X hP hS (pr0 h) rfl dX9_tried_22
end METHS

section METHS
variable {p : Program} {l : Launch} {e : Env} {s : State} {m : MethodId} {args : Array Value} {below : List Frame} {meth : Method} {c : Code} {H : Heap} {locs : List Loc} {G : va_G} {cy : Nat → ClassId} {B nT : Nat} {ls : Array Slot}
abbrev rmX9_isTaken : Room := { frames := 2, cells := 0, slots := 0, locals := 45 }
def f_X9_isTaken_202 (M : Mem) : Option (Bool × Mem) :=
  lt (sI M 119 78 0) fun M_1 => some (true, M_1)
set_option maxRecDepth 100000 in
set_option maxHeartbeats 4000000 in
theorem w_X9_isTaken_202 (X : Cx p s m args meth c cX9_isTaken RX9 6 (some .boolean) G cy) {out : Bool × Mem} {M : Mem} (hP : Pic G B cy nT M H) (hS : va_S (FB B) s.heap H locs) (hl : lv_has ls 6 [(0, .ref (B + 119))]) (h : f_X9_isTaken_202 M = some out) : W p l e rmX9_isTaken s m args below meth c H locs 0 0 (MQ below (Qi G B cy nT (bI out.1) out.2) args s 0 0 (FB B)) (F0 m 202 ls []) := by
  obtain ⟨hx, hb, hr, hml, hown, hts, hKn, hlk⟩ := id X
  unfold f_X9_isTaken_202 at h
  refine lv_aload_n hx hb dX9_isTaken_202 rfl (lv_at hl 0 rfl) ?_
  refine lv_iconst (v := 0) hx hb dX9_isTaken_203 (by decide) ?_
  obtain ⟨M_1, e_1, h⟩ := lt_el h
  refine pf_X9_278 X hP hS e_1 dX9_isTaken_204 (fun H locs hP hS => ?_)
  refine lv_iconst (v := 1) hx hb dX9_isTaken_207 (by decide) ?_
  exact r_zret X hP hS rfl (prb h) (pr2 h) dX9_isTaken_208
def f_X9_isTaken_96 (M : Mem) (v1 : Int32) (v3 : Int32) : Option (Bool × Mem) :=
  gd (inR (gI M 119 46) 4) <| lt (sI M 176 (gI M 119 46).toNatClampNeg (v1 + 1)) fun M_1 => Option.bind (f_X9_undo M_1) fun r_1 => lt (((6 * (gI r_1 119 46)) + v1) - 1) fun v_1 => if v3 = 0 then (gd (inR ((6 * (gI r_1 119 46)) + v1) 24) <| lt (sL r_1 119 47 (gL r_1 180 ((6 * (gI r_1 119 46)) + v1).toNatClampNeg)) fun M_2 => gd (inR v_1 24) <| gd (inR v_1 24) <| gd (inR ((24 * (gI M_2 177 v_1.toNatClampNeg)) + (gI M_2 178 v_1.toNatClampNeg)) 384) <| Option.bind (f_X9_enter M_2 (gI M_2 131 ((24 * (gI M_2 177 v_1.toNatClampNeg)) + (gI M_2 178 v_1.toNatClampNeg)).toNatClampNeg) 0) fun r_2 => f_X9_isTaken_202 r_2) else (lt (sL r_1 119 47 ((-1) - (Int32.toInt64 (gI r_1 119 78)))) fun M_3 => gd (inR v_1 24) <| gd (inR v_1 24) <| lt (sI M_3 178 v_1.toNatClampNeg ((gI M_3 178 v_1.toNatClampNeg) + 1)) fun M_4 => f_X9_isTaken_202 M_4)
set_option maxRecDepth 100000 in
set_option maxHeartbeats 4000000 in
theorem w_X9_isTaken_96 (X : Cx p s m args meth c cX9_isTaken RX9 6 (some .boolean) G cy) {out : Bool × Mem} {M : Mem} {v1 : Int32} {v3 : Int32} (hP : Pic G B cy nT M H) (hS : va_S (FB B) s.heap H locs) (hl : lv_has ls 6 [(0, .ref (B + 119)), (1, .int v1), (3, .int v3)]) (h : f_X9_isTaken_96 M v1 v3 = some out) : W p l e rmX9_isTaken s m args below meth c H locs 0 0 (MQ below (Qi G B cy nT (bI out.1) out.2) args s 0 0 (FB B)) (F0 m 96 ls []) := by
  obtain ⟨hx, hb, hr, hml, hown, hts, hKn, hlk⟩ := id X
  unfold f_X9_isTaken_96 at h
  refine lv_aload_n hx hb dX9_isTaken_96 rfl (lv_at hl 0 rfl) ?_
  refine gf_X9_184 X hP dX9_isTaken_97 ?_
  refine lv_aload_n hx hb dX9_isTaken_100 rfl (lv_at hl 0 rfl) ?_
  refine gf_X9_267 X hP dX9_isTaken_101 ?_
  refine lv_iload_n hx hb dX9_isTaken_104 rfl (lv_at hl 1 rfl) ?_
  refine lv_iconst (v := 1) hx hb dX9_isTaken_105 (by decide) ?_
  refine lv_iadd hx hb dX9_isTaken_106 ?_
  obtain ⟨g_1, h⟩ := gd_el h
  obtain ⟨M_1, e_1, h⟩ := lt_el h
  refine r_iast X hP hS kq_176 g_1 e_1 dX9_isTaken_107 (fun H locs hP hS => ?_)
  refine lv_aload_n hx hb dX9_isTaken_108 rfl (lv_at hl 0 rfl) ?_
  obtain ⟨r_1, h_1, h⟩ := bd_el h
  refine cl_v (rn_V (C := RX9) (ci := 9) X hP (c_X9_undo h_1) kq_119 rfl k_791 k_792 k_926 k_9 k_793 rfl hd_X9_undo (n := 0) ⟨⟨rfl, rfl⟩, Nat.le_of_ble_eq_true rfl, Nat.le_of_ble_eq_true rfl⟩ (As := []) (rest := []) rfl hl.1 rfl (Nat.le_of_ble_eq_true rfl) dX9_isTaken_109 ⟨Nat.zero_le _, Nat.zero_le _⟩) hS (fun H locs hP hS => ?_)
  refine lv_bipush (v := 6) hx hb dX9_isTaken_112 (by decide) ?_
  refine lv_aload_n hx hb dX9_isTaken_114 rfl (lv_at hl 0 rfl) ?_
  refine gf_X9_267 X hP dX9_isTaken_115 ?_
  refine lv_imul hx hb dX9_isTaken_118 ?_
  refine lv_iload_n hx hb dX9_isTaken_119 rfl (lv_at hl 1 rfl) ?_
  refine lv_iadd hx hb dX9_isTaken_120 ?_
  refine lv_iconst (v := 1) hx hb dX9_isTaken_121 (by decide) ?_
  refine lv_isub hx hb dX9_isTaken_122 ?_
  obtain ⟨v_1, e_2, h⟩ := lt_el h
  refine r_topi e_2 ?_
  refine lv_istore (lv' := [(5, .int v_1), (0, .ref (B + 119)), (1, .int v1), (3, .int v3)]) hx hb dX9_isTaken_123 hl (by decide) rfl (fun ls hl => ?_)
  refine lv_iload_n hx hb dX9_isTaken_125 rfl (lv_at hl 3 rfl) ?_
  refine lv_if_eq (tgt := 156) hx hb dX9_isTaken_126 (by decide) (fun hc => ?_) (fun hc => ?_)
  · replace h := if_elp h hc
    refine lv_aload_n hx hb dX9_isTaken_156 rfl (lv_at hl 1 rfl) ?_
    refine lv_aload_n hx hb dX9_isTaken_157 rfl (lv_at hl 1 rfl) ?_
    refine gf_X9_196 X hP dX9_isTaken_158 ?_
    refine lv_bipush (v := 6) hx hb dX9_isTaken_161 (by decide) ?_
    refine lv_aload_n hx hb dX9_isTaken_163 rfl (lv_at hl 1 rfl) ?_
    refine gf_X9_267 X hP dX9_isTaken_164 ?_
    refine lv_imul hx hb dX9_isTaken_167 ?_
    refine lv_iload_n hx hb dX9_isTaken_168 rfl (lv_at hl 2 rfl) ?_
    refine lv_iadd hx hb dX9_isTaken_169 ?_
    obtain ⟨g_2, h⟩ := gd_el h
    refine r_lald X hP kq_180 g_2 dX9_isTaken_170 ?_
    obtain ⟨M_2, e_3, h⟩ := lt_el h
    refine pf_X9_287 X hP hS e_3 dX9_isTaken_171 (fun H locs hP hS => ?_)
    refine lv_aload_n hx hb dX9_isTaken_174 rfl (lv_at hl 1 rfl) ?_
    refine lv_aload_n hx hb dX9_isTaken_175 rfl (lv_at hl 1 rfl) ?_
    refine gf_X9_44 X hP dX9_isTaken_176 ?_
    refine lv_bipush (v := 24) hx hb dX9_isTaken_179 (by decide) ?_
    refine lv_aload_n hx hb dX9_isTaken_181 rfl (lv_at hl 1 rfl) ?_
    refine gf_X9_187 X hP dX9_isTaken_182 ?_
    refine lv_iload hx hb dX9_isTaken_185 (lv_at hl 0 rfl) ?_
    obtain ⟨g_3, h⟩ := gd_el h
    refine r_iald X hP kq_177 g_3 dX9_isTaken_187 ?_
    refine lv_imul hx hb dX9_isTaken_188 ?_
    refine lv_aload_n hx hb dX9_isTaken_189 rfl (lv_at hl 1 rfl) ?_
    refine gf_X9_190 X hP dX9_isTaken_190 ?_
    refine lv_iload hx hb dX9_isTaken_193 (lv_at hl 0 rfl) ?_
    obtain ⟨g_4, h⟩ := gd_el h
    refine r_iald X hP kq_178 g_4 dX9_isTaken_195 ?_
    refine lv_iadd hx hb dX9_isTaken_196 ?_
    obtain ⟨g_5, h⟩ := gd_el h
    refine r_iald X hP kq_131 g_5 dX9_isTaken_197 ?_
    refine lv_iconst (v := 0) hx hb dX9_isTaken_198 (by decide) ?_
    obtain ⟨r_2, h_2, h⟩ := bd_el h
    refine cl_v (rn_V (C := RX9) (ci := 9) X hP (c_X9_enter h_2) kq_119 rfl k_733 k_734 k_910 k_9 k_735 rfl hd_X9_enter (n := 2) ⟨⟨rfl, rfl⟩, Nat.le_of_ble_eq_true rfl, Nat.le_of_ble_eq_true rfl⟩ (As := [.int (gI M_2 131 ((24 * (gI M_2 177 v_1.toNatClampNeg)) + (gI M_2 178 v_1.toNatClampNeg)).toNatClampNeg), .int 0]) (rest := []) rfl hl.1 rfl (Nat.le_of_ble_eq_true rfl) dX9_isTaken_199 ⟨Nat.zero_le _, Nat.zero_le _⟩) hS (fun H locs hP hS => ?_)
    exact w_X9_isTaken_202 X hP hS (lv_sub hl [1] rfl) h
  · replace h := if_eln h hc
    refine lv_aload_n hx hb dX9_isTaken_129 rfl (lv_at hl 1 rfl) ?_
    refine lv_ldc2 (v := (-1)) hx hb hown (hts _ k_771) dX9_isTaken_130 ?_
    refine lv_aload_n hx hb dX9_isTaken_133 rfl (lv_at hl 1 rfl) ?_
    refine gf_X9_278 X hP dX9_isTaken_134 ?_
    refine lv_i2l (v := (Int32.toInt64 (gI r_1 119 78))) hx hb dX9_isTaken_137 rfl ?_
    refine lv_lsub hx hb dX9_isTaken_138 ?_
    obtain ⟨M_3, e_4, h⟩ := lt_el h
    refine pf_X9_287 X hP hS e_4 dX9_isTaken_139 (fun H locs hP hS => ?_)
    refine lv_aload_n hx hb dX9_isTaken_142 rfl (lv_at hl 1 rfl) ?_
    refine gf_X9_190 X hP dX9_isTaken_143 ?_
    refine lv_iload hx hb dX9_isTaken_146 (lv_at hl 0 rfl) ?_
    refine lv_dup2_11 hx hb dX9_isTaken_148 rfl rfl ?_
    obtain ⟨g_6, h⟩ := gd_el h
    refine r_iald X hP kq_178 g_6 dX9_isTaken_149 ?_
    refine lv_iconst (v := 1) hx hb dX9_isTaken_150 (by decide) ?_
    refine lv_iadd hx hb dX9_isTaken_151 ?_
    obtain ⟨g_7, h⟩ := gd_el h
    obtain ⟨M_4, e_5, h⟩ := lt_el h
    refine r_iast X hP hS kq_178 g_7 e_5 dX9_isTaken_152 (fun H locs hP hS => ?_)
    refine lv_goto (tgt := 202) hx hb dX9_isTaken_153 (by decide) ?_
    exact w_X9_isTaken_202 X hP hS (lv_sub hl [1] rfl) h
def f_X9_isTaken_85 (K12 : Mem → Int32 → Option (Bool × Mem)) (M : Mem) (v1 : Int32) (v3 : Int32) (s0 : Int32) : Option (Bool × Mem) :=
  if v3 = 0 then (if s0 = 0 then (lt (v1 + (-1)) fun v_1 => K12 M v_1) else (f_X9_isTaken_96 M v1 v3)) else (f_X9_isTaken_96 M v1 v3)
set_option maxRecDepth 100000 in
set_option maxHeartbeats 4000000 in
theorem w_X9_isTaken_85 (X : Cx p s m args meth c cX9_isTaken RX9 6 (some .boolean) G cy) {out : Bool × Mem} {K12 : Mem → Int32 → Option (Bool × Mem)} (hK12 : ∀ (H : Heap) (locs : List Loc) (ls : Array Slot) (M : Mem) (v1 : Int32), Pic G B cy nT M H → va_S (FB B) s.heap H locs → lv_has ls 6 [(0, .ref (B + 119)), (1, .int v1)] → K12 M v1 = some out → W p l e rmX9_isTaken s m args below meth c H locs 0 0 (MQ below (Qi G B cy nT (bI out.1) out.2) args s 0 0 (FB B)) (F0 m 12 ls [])) {M : Mem} {v1 : Int32} {v3 : Int32} {s0 : Int32} (hP : Pic G B cy nT M H) (hS : va_S (FB B) s.heap H locs) (hl : lv_has ls 6 [(0, .ref (B + 119)), (1, .int v1), (3, .int v3)]) (h : f_X9_isTaken_85 K12 M v1 v3 s0 = some out) : W p l e rmX9_isTaken s m args below meth c H locs 0 0 (MQ below (Qi G B cy nT (bI out.1) out.2) args s 0 0 (FB B)) (F0 m 85 ls [.int s0]) := by
  obtain ⟨hx, hb, hr, hml, hown, hts, hKn, hlk⟩ := id X
  unfold f_X9_isTaken_85 at h
  refine lv_istore (lv' := [(4, .int s0), (0, .ref (B + 119)), (1, .int v1), (3, .int v3)]) hx hb dX9_isTaken_85 hl (by decide) rfl (fun ls hl => ?_)
  refine lv_iload_n hx hb dX9_isTaken_87 rfl (lv_at hl 3 rfl) ?_
  refine lv_if_ne (tgt := 96) hx hb dX9_isTaken_88 (by decide) (fun hc => ?_) (fun hc => ?_)
  · replace h := if_eln h hc
    exact w_X9_isTaken_96 X hP hS (lv_sub hl [1, 2, 3] rfl) h
  · replace h := if_elp h hc
    refine lv_iload hx hb dX9_isTaken_91 (lv_at hl 0 rfl) ?_
    refine lv_if_eq (tgt := 209) hx hb dX9_isTaken_93 (by decide) (fun hc => ?_) (fun hc => ?_)
    · replace h := if_elp h hc
      obtain ⟨v_1, e_1, h⟩ := lt_el h
      refine lv_iinc (v := v_1) (lv' := [(1, .int v_1), (4, .int s0), (0, .ref (B + 119)), (3, .int v3)]) hx hb dX9_isTaken_209 hl (k := 2) rfl (by rw [e_1]; rfl) (by decide) rfl (fun ls hl => ?_)
      refine lv_goto (tgt := 12) hx hb dX9_isTaken_212 (by decide) ?_
      exact hK12 _ _ _ _ _ hP hS (lv_sub hl [2, 0] rfl) h
    · replace h := if_eln h hc
      exact w_X9_isTaken_96 X hP hS (lv_sub hl [1, 2, 3] rfl) h
def f_X9_isTaken_84 (K12 : Mem → Int32 → Option (Bool × Mem)) (M : Mem) (v1 : Int32) (v3 : Int32) : Option (Bool × Mem) :=
  f_X9_isTaken_85 K12 M v1 v3 0
set_option maxRecDepth 100000 in
set_option maxHeartbeats 4000000 in
theorem w_X9_isTaken_84 (X : Cx p s m args meth c cX9_isTaken RX9 6 (some .boolean) G cy) {out : Bool × Mem} {K12 : Mem → Int32 → Option (Bool × Mem)} (hK12 : ∀ (H : Heap) (locs : List Loc) (ls : Array Slot) (M : Mem) (v1 : Int32), Pic G B cy nT M H → va_S (FB B) s.heap H locs → lv_has ls 6 [(0, .ref (B + 119)), (1, .int v1)] → K12 M v1 = some out → W p l e rmX9_isTaken s m args below meth c H locs 0 0 (MQ below (Qi G B cy nT (bI out.1) out.2) args s 0 0 (FB B)) (F0 m 12 ls [])) {M : Mem} {v1 : Int32} {v3 : Int32} (hP : Pic G B cy nT M H) (hS : va_S (FB B) s.heap H locs) (hl : lv_has ls 6 [(0, .ref (B + 119)), (1, .int v1), (3, .int v3)]) (h : f_X9_isTaken_84 K12 M v1 v3 = some out) : W p l e rmX9_isTaken s m args below meth c H locs 0 0 (MQ below (Qi G B cy nT (bI out.1) out.2) args s 0 0 (FB B)) (F0 m 84 ls []) := by
  obtain ⟨hx, hb, hr, hml, hown, hts, hKn, hlk⟩ := id X
  unfold f_X9_isTaken_84 at h
  refine lv_iconst (v := 0) hx hb dX9_isTaken_84 (by decide) ?_
  exact w_X9_isTaken_85 X hK12 hP hS (lv_sub hl [0, 1, 2] rfl) h
def f_X9_isTaken_80 (K12 : Mem → Int32 → Option (Bool × Mem)) (M : Mem) (v1 : Int32) (v3 : Int32) : Option (Bool × Mem) :=
  f_X9_isTaken_85 K12 M v1 v3 1
set_option maxRecDepth 100000 in
set_option maxHeartbeats 4000000 in
theorem w_X9_isTaken_80 (X : Cx p s m args meth c cX9_isTaken RX9 6 (some .boolean) G cy) {out : Bool × Mem} {K12 : Mem → Int32 → Option (Bool × Mem)} (hK12 : ∀ (H : Heap) (locs : List Loc) (ls : Array Slot) (M : Mem) (v1 : Int32), Pic G B cy nT M H → va_S (FB B) s.heap H locs → lv_has ls 6 [(0, .ref (B + 119)), (1, .int v1)] → K12 M v1 = some out → W p l e rmX9_isTaken s m args below meth c H locs 0 0 (MQ below (Qi G B cy nT (bI out.1) out.2) args s 0 0 (FB B)) (F0 m 12 ls [])) {M : Mem} {v1 : Int32} {v3 : Int32} (hP : Pic G B cy nT M H) (hS : va_S (FB B) s.heap H locs) (hl : lv_has ls 6 [(0, .ref (B + 119)), (1, .int v1), (3, .int v3)]) (h : f_X9_isTaken_80 K12 M v1 v3 = some out) : W p l e rmX9_isTaken s m args below meth c H locs 0 0 (MQ below (Qi G B cy nT (bI out.1) out.2) args s 0 0 (FB B)) (F0 m 80 ls []) := by
  obtain ⟨hx, hb, hr, hml, hown, hts, hKn, hlk⟩ := id X
  unfold f_X9_isTaken_80 at h
  refine lv_iconst (v := 1) hx hb dX9_isTaken_80 (by decide) ?_
  refine lv_goto (tgt := 85) hx hb dX9_isTaken_81 (by decide) ?_
  exact w_X9_isTaken_85 X hK12 hP hS (lv_sub hl [0, 1, 2] rfl) h
def f_X9_isTaken_57 (K12 : Mem → Int32 → Option (Bool × Mem)) (M : Mem) (v1 : Int32) (v2 : Int32) (s0 : Int32) : Option (Bool × Mem) :=
  if v2 = 2 then (if (gI M 119 78) = (-1) then (f_X9_isTaken_80 K12 M v1 s0) else (if (gI M 119 78) = 8 then (f_X9_isTaken_80 K12 M v1 s0) else (f_X9_isTaken_84 K12 M v1 s0))) else (f_X9_isTaken_84 K12 M v1 s0)
set_option maxRecDepth 100000 in
set_option maxHeartbeats 4000000 in
theorem w_X9_isTaken_57 (X : Cx p s m args meth c cX9_isTaken RX9 6 (some .boolean) G cy) {out : Bool × Mem} {K12 : Mem → Int32 → Option (Bool × Mem)} (hK12 : ∀ (H : Heap) (locs : List Loc) (ls : Array Slot) (M : Mem) (v1 : Int32), Pic G B cy nT M H → va_S (FB B) s.heap H locs → lv_has ls 6 [(0, .ref (B + 119)), (1, .int v1)] → K12 M v1 = some out → W p l e rmX9_isTaken s m args below meth c H locs 0 0 (MQ below (Qi G B cy nT (bI out.1) out.2) args s 0 0 (FB B)) (F0 m 12 ls [])) {M : Mem} {v1 : Int32} {v2 : Int32} {s0 : Int32} (hP : Pic G B cy nT M H) (hS : va_S (FB B) s.heap H locs) (hl : lv_has ls 6 [(0, .ref (B + 119)), (1, .int v1), (2, .int v2)]) (h : f_X9_isTaken_57 K12 M v1 v2 s0 = some out) : W p l e rmX9_isTaken s m args below meth c H locs 0 0 (MQ below (Qi G B cy nT (bI out.1) out.2) args s 0 0 (FB B)) (F0 m 57 ls [.int s0]) := by
  obtain ⟨hx, hb, hr, hml, hown, hts, hKn, hlk⟩ := id X
  unfold f_X9_isTaken_57 at h
  refine lv_istore_n (lv' := [(3, .int s0), (0, .ref (B + 119)), (1, .int v1), (2, .int v2)]) hx hb dX9_isTaken_57 rfl hl (by decide) rfl (fun ls hl => ?_)
  refine lv_iload_n hx hb dX9_isTaken_58 rfl (lv_at hl 3 rfl) ?_
  refine lv_iconst (v := 2) hx hb dX9_isTaken_59 (by decide) ?_
  refine lv_icmp_ne (tgt := 84) hx hb dX9_isTaken_60 (by decide) (fun hc => ?_) (fun hc => ?_)
  · replace h := if_eln h hc
    exact w_X9_isTaken_84 X hK12 hP hS (lv_sub hl [1, 2, 0] rfl) h
  · replace h := if_elp h hc
    refine lv_aload_n hx hb dX9_isTaken_63 rfl (lv_at hl 1 rfl) ?_
    refine gf_X9_278 X hP dX9_isTaken_64 ?_
    refine lv_iconst (v := (-1)) hx hb dX9_isTaken_67 (by decide) ?_
    refine lv_icmp_eq (tgt := 80) hx hb dX9_isTaken_68 (by decide) (fun hc => ?_) (fun hc => ?_)
    · replace h := if_elp h hc
      exact w_X9_isTaken_80 X hK12 hP hS (lv_sub hl [1, 2, 0] rfl) h
    · replace h := if_eln h hc
      refine lv_aload_n hx hb dX9_isTaken_71 rfl (lv_at hl 1 rfl) ?_
      refine gf_X9_278 X hP dX9_isTaken_72 ?_
      refine lv_bipush (v := 8) hx hb dX9_isTaken_75 (by decide) ?_
      refine lv_icmp_ne (tgt := 84) hx hb dX9_isTaken_77 (by decide) (fun hc => ?_) (fun hc => ?_)
      · replace h := if_eln h hc
        exact w_X9_isTaken_84 X hK12 hP hS (lv_sub hl [1, 2, 0] rfl) h
      · replace h := if_elp h hc
        exact w_X9_isTaken_80 X hK12 hP hS (lv_sub hl [1, 2, 0] rfl) h
def f_X9_isTaken_56 (K12 : Mem → Int32 → Option (Bool × Mem)) (M : Mem) (v1 : Int32) (v2 : Int32) : Option (Bool × Mem) :=
  f_X9_isTaken_57 K12 M v1 v2 0
set_option maxRecDepth 100000 in
set_option maxHeartbeats 4000000 in
theorem w_X9_isTaken_56 (X : Cx p s m args meth c cX9_isTaken RX9 6 (some .boolean) G cy) {out : Bool × Mem} {K12 : Mem → Int32 → Option (Bool × Mem)} (hK12 : ∀ (H : Heap) (locs : List Loc) (ls : Array Slot) (M : Mem) (v1 : Int32), Pic G B cy nT M H → va_S (FB B) s.heap H locs → lv_has ls 6 [(0, .ref (B + 119)), (1, .int v1)] → K12 M v1 = some out → W p l e rmX9_isTaken s m args below meth c H locs 0 0 (MQ below (Qi G B cy nT (bI out.1) out.2) args s 0 0 (FB B)) (F0 m 12 ls [])) {M : Mem} {v1 : Int32} {v2 : Int32} (hP : Pic G B cy nT M H) (hS : va_S (FB B) s.heap H locs) (hl : lv_has ls 6 [(0, .ref (B + 119)), (1, .int v1), (2, .int v2)]) (h : f_X9_isTaken_56 K12 M v1 v2 = some out) : W p l e rmX9_isTaken s m args below meth c H locs 0 0 (MQ below (Qi G B cy nT (bI out.1) out.2) args s 0 0 (FB B)) (F0 m 56 ls []) := by
  obtain ⟨hx, hb, hr, hml, hown, hts, hKn, hlk⟩ := id X
  unfold f_X9_isTaken_56 at h
  refine lv_iconst (v := 0) hx hb dX9_isTaken_56 (by decide) ?_
  exact w_X9_isTaken_57 X hK12 hP hS (lv_sub hl [0, 1, 2] rfl) h
def f_X9_isTaken_12 : Nat → Mem → Int32 → Option (Bool × Mem)
  | 0, _, _ => none
  | n + 1, M, v1 => if v1 ≤ 0 then (some (false, M)) else (gd (inR ((6 * (gI M 119 46)) + v1) 24) <| lt (gI M 179 ((6 * (gI M 119 46)) + v1).toNatClampNeg) fun v_1 => if v_1 = 1 then (if (gI M 119 78) ≤ 0 then (f_X9_isTaken_56 (f_X9_isTaken_12 n) M v1 v_1) else (if (gI M 119 78) = 10 then (f_X9_isTaken_56 (f_X9_isTaken_12 n) M v1 v_1) else (f_X9_isTaken_57 (f_X9_isTaken_12 n) M v1 v_1 1))) else (f_X9_isTaken_56 (f_X9_isTaken_12 n) M v1 v_1))
set_option maxRecDepth 100000 in
set_option maxHeartbeats 4000000 in
theorem w_X9_isTaken_12 (X : Cx p s m args meth c cX9_isTaken RX9 6 (some .boolean) G cy) {out : Bool × Mem} : ∀ n : Nat, ∀ (H : Heap) (locs : List Loc) (ls : Array Slot) (M : Mem) (v1 : Int32), Pic G B cy nT M H → va_S (FB B) s.heap H locs → lv_has ls 6 [(0, .ref (B + 119)), (1, .int v1)] → f_X9_isTaken_12 n M v1 = some out → W p l e rmX9_isTaken s m args below meth c H locs 0 0 (MQ below (Qi G B cy nT (bI out.1) out.2) args s 0 0 (FB B)) (F0 m 12 ls []) := by
  obtain ⟨hx, hb, hr, hml, hown, hts, hKn, hlk⟩ := id X
  intro n
  induction n with
  | zero =>
    intro H locs ls M v1 hP hS hl h
    cases h
  | succ n ih =>
    intro H locs ls M v1 hP hS hl h
    rw [f_X9_isTaken_12] at h
    refine lv_iload_n hx hb dX9_isTaken_12 rfl (lv_at hl 1 rfl) ?_
    refine lv_if_le (tgt := 215) hx hb dX9_isTaken_13 (by decide) (fun hc => ?_) (fun hc => ?_)
    · replace h := if_elp h hc
      refine lv_iconst (v := 0) hx hb dX9_isTaken_215 (by decide) ?_
      exact r_zret X hP hS rfl (prb h) (pr2 h) dX9_isTaken_216
    · replace h := if_eln h hc
      refine lv_aload_n hx hb dX9_isTaken_16 rfl (lv_at hl 0 rfl) ?_
      refine gf_X9_193 X hP dX9_isTaken_17 ?_
      refine lv_bipush (v := 6) hx hb dX9_isTaken_20 (by decide) ?_
      refine lv_aload_n hx hb dX9_isTaken_22 rfl (lv_at hl 0 rfl) ?_
      refine gf_X9_267 X hP dX9_isTaken_23 ?_
      refine lv_imul hx hb dX9_isTaken_26 ?_
      refine lv_iload_n hx hb dX9_isTaken_27 rfl (lv_at hl 1 rfl) ?_
      refine lv_iadd hx hb dX9_isTaken_28 ?_
      obtain ⟨g_1, h⟩ := gd_el h
      refine r_iald X hP kq_179 g_1 dX9_isTaken_29 ?_
      obtain ⟨v_1, e_1, h⟩ := lt_el h
      refine r_topi e_1 ?_
      refine lv_istore_n (lv' := [(2, .int v_1), (0, .ref (B + 119)), (1, .int v1)]) hx hb dX9_isTaken_30 rfl hl (by decide) rfl (fun ls hl => ?_)
      refine lv_iload_n hx hb dX9_isTaken_31 rfl (lv_at hl 0 rfl) ?_
      refine lv_iconst (v := 1) hx hb dX9_isTaken_32 (by decide) ?_
      refine lv_icmp_ne (tgt := 56) hx hb dX9_isTaken_33 (by decide) (fun hc => ?_) (fun hc => ?_)
      · replace h := if_eln h hc
        exact w_X9_isTaken_56 X ih hP hS (lv_sub hl [1, 2, 0] rfl) h
      · replace h := if_elp h hc
        refine lv_aload_n hx hb dX9_isTaken_36 rfl (lv_at hl 1 rfl) ?_
        refine gf_X9_278 X hP dX9_isTaken_37 ?_
        refine lv_if_le (tgt := 56) hx hb dX9_isTaken_40 (by decide) (fun hc => ?_) (fun hc => ?_)
        · replace h := if_elp h hc
          exact w_X9_isTaken_56 X ih hP hS (lv_sub hl [1, 2, 0] rfl) h
        · replace h := if_eln h hc
          refine lv_aload_n hx hb dX9_isTaken_43 rfl (lv_at hl 1 rfl) ?_
          refine gf_X9_278 X hP dX9_isTaken_44 ?_
          refine lv_bipush (v := 10) hx hb dX9_isTaken_47 (by decide) ?_
          refine lv_icmp_eq (tgt := 56) hx hb dX9_isTaken_49 (by decide) (fun hc => ?_) (fun hc => ?_)
          · replace h := if_elp h hc
            exact w_X9_isTaken_56 X ih hP hS (lv_sub hl [1, 2, 0] rfl) h
          · replace h := if_eln h hc
            refine lv_iconst (v := 1) hx hb dX9_isTaken_52 (by decide) ?_
            refine lv_goto (tgt := 57) hx hb dX9_isTaken_53 (by decide) ?_
            exact w_X9_isTaken_57 X ih hP hS (lv_sub hl [1, 2, 0] rfl) h
def f_X9_isTaken (M : Mem) : Option (Bool × Mem) :=
  gd (inR (gI M 119 46) 4) <| lt ((gI M 176 (gI M 119 46).toNatClampNeg) - 1) fun v_1 => f_X9_isTaken_12 FU M v_1
set_option maxRecDepth 100000 in
set_option maxHeartbeats 4000000 in
theorem c_X9_isTaken {l : Launch} {G : va_G} {cy : Nat → ClassId} {B nT : Nat} {M : Mem} {out : Bool × Mem} (h : f_X9_isTaken M = some out) : Met l yX9_isTaken (wsU yX9_isTaken cX9_isTaken 6 (some .boolean)) rmX9_isTaken (va_Pc [.ref (B + 119)] (PU G B cy nT M)) (Qi G B cy nT (bI out.1) out.2) 0 0 (FB B) := by
  refine r_met (by decide +kernel) RX9 rfl (Nat.le_of_ble_eq_true rfl) ?_
  intro p e s m args below meth c ls X hP hl
  have hl : lv_has ls 6 [(0, .ref (B + 119))] := hl
  have hS : va_S (FB B) s.heap s.heap [] := va_S.rf
  obtain ⟨hx, hb, hr, hml, hown, hts, hKn, hlk⟩ := id X
  unfold f_X9_isTaken at h
  refine lv_aload_n hx hb dX9_isTaken_0 rfl (lv_at hl 0 rfl) ?_
  refine gf_X9_184 X hP dX9_isTaken_1 ?_
  refine lv_aload_n hx hb dX9_isTaken_4 rfl (lv_at hl 0 rfl) ?_
  refine gf_X9_267 X hP dX9_isTaken_5 ?_
  obtain ⟨g_1, h⟩ := gd_el h
  refine r_iald X hP kq_176 g_1 dX9_isTaken_8 ?_
  refine lv_iconst (v := 1) hx hb dX9_isTaken_9 (by decide) ?_
  refine lv_isub hx hb dX9_isTaken_10 ?_
  obtain ⟨v_1, e_1, h⟩ := lt_el h
  refine r_topi e_1 ?_
  refine lv_istore_n (lv' := [(1, .int v_1), (0, .ref (B + 119))]) hx hb dX9_isTaken_11 rfl hl (by decide) rfl (fun ls hl => ?_)
  exact w_X9_isTaken_12 X FU _ _ _ _ _ hP hS (lv_sub hl [1, 0] rfl) h
abbrev rmX9_attempt : Room := { frames := 5, cells := 0, slots := 0, locals := 118 }
def f_X9_attempt_320 (M : Mem) (v2 : Int32) (s0 : Int32) (s1 : Int32) : Option (Mem) :=
  gd (inR s1 4) <| lt (sI M 161 s1.toNatClampNeg s0) fun M_1 => gd (inR v2 4) <| lt (sI M_1 162 v2.toNatClampNeg (gI M_1 119 48)) fun M_2 => some M_2
set_option maxRecDepth 100000 in
set_option maxHeartbeats 4000000 in
theorem w_X9_attempt_320 (X : Cx p s m args meth c cX9_attempt RX9 5 none G cy) {out : Mem} {M : Mem} {v2 : Int32} {s0 : Int32} {s1 : Int32} (hP : Pic G B cy nT M H) (hS : va_S (FB B) s.heap H locs) (hl : lv_has ls 5 [(0, .ref (B + 119)), (2, .int v2)]) (h : f_X9_attempt_320 M v2 s0 s1 = some out) : W p l e rmX9_attempt s m args below meth c H locs 0 0 (MQ below (Qv G B cy nT out) args s 0 0 (FB B)) (F0 m 320 ls [.int s0, .int s1, .ref (B + 161)]) := by
  obtain ⟨hx, hb, hr, hml, hown, hts, hKn, hlk⟩ := id X
  unfold f_X9_attempt_320 at h
  obtain ⟨g_1, h⟩ := gd_el h
  obtain ⟨M_1, e_1, h⟩ := lt_el h
  refine r_iast X hP hS kq_161 g_1 e_1 dX9_attempt_320 (fun H locs hP hS => ?_)
  refine lv_aload_n hx hb dX9_attempt_321 rfl (lv_at hl 0 rfl) ?_
  refine gf_X9_142 X hP dX9_attempt_322 ?_
  refine lv_iload_n hx hb dX9_attempt_325 rfl (lv_at hl 1 rfl) ?_
  refine lv_aload_n hx hb dX9_attempt_326 rfl (lv_at hl 0 rfl) ?_
  refine gf_X9_336 X hP dX9_attempt_327 ?_
  obtain ⟨g_2, h⟩ := gd_el h
  obtain ⟨M_2, e_2, h⟩ := lt_el h
  refine r_iast X hP hS kq_162 g_2 e_2 dX9_attempt_330 (fun H locs hP hS => ?_)
  exact r_vret X hP hS (pr0 h) dX9_attempt_331
def f_X9_attempt_297 (M : Mem) (v2 : Int32) (s0 : Int32) (s1 : Int32) : Option (Mem) :=
  gd (inR s1 4) <| lt (sI M 160 s1.toNatClampNeg s0) fun M_1 => if (gI M_1 119 78) = 8 then (f_X9_attempt_320 M_1 v2 (gI M_1 119 79) v2) else (f_X9_attempt_320 M_1 v2 0 v2)
set_option maxRecDepth 100000 in
set_option maxHeartbeats 4000000 in
theorem w_X9_attempt_297 (X : Cx p s m args meth c cX9_attempt RX9 5 none G cy) {out : Mem} {M : Mem} {v2 : Int32} {s0 : Int32} {s1 : Int32} (hP : Pic G B cy nT M H) (hS : va_S (FB B) s.heap H locs) (hl : lv_has ls 5 [(0, .ref (B + 119)), (2, .int v2)]) (h : f_X9_attempt_297 M v2 s0 s1 = some out) : W p l e rmX9_attempt s m args below meth c H locs 0 0 (MQ below (Qv G B cy nT out) args s 0 0 (FB B)) (F0 m 297 ls [.int s0, .int s1, .ref (B + 160)]) := by
  obtain ⟨hx, hb, hr, hml, hown, hts, hKn, hlk⟩ := id X
  unfold f_X9_attempt_297 at h
  obtain ⟨g_1, h⟩ := gd_el h
  obtain ⟨M_1, e_1, h⟩ := lt_el h
  refine r_iast X hP hS kq_160 g_1 e_1 dX9_attempt_297 (fun H locs hP hS => ?_)
  refine lv_aload_n hx hb dX9_attempt_298 rfl (lv_at hl 0 rfl) ?_
  refine gf_X9_139 X hP dX9_attempt_299 ?_
  refine lv_iload_n hx hb dX9_attempt_302 rfl (lv_at hl 1 rfl) ?_
  refine lv_aload_n hx hb dX9_attempt_303 rfl (lv_at hl 0 rfl) ?_
  refine gf_X9_278 X hP dX9_attempt_304 ?_
  refine lv_bipush (v := 8) hx hb dX9_attempt_307 (by decide) ?_
  refine lv_icmp_ne (tgt := 319) hx hb dX9_attempt_309 (by decide) (fun hc => ?_) (fun hc => ?_)
  · replace h := if_eln h hc
    refine lv_iconst (v := 0) hx hb dX9_attempt_319 (by decide) ?_
    exact w_X9_attempt_320 X hP hS (lv_sub hl [0, 1] rfl) h
  · replace h := if_elp h hc
    refine lv_aload_n hx hb dX9_attempt_312 rfl (lv_at hl 0 rfl) ?_
    refine gf_X9_333 X hP dX9_attempt_313 ?_
    refine lv_goto (tgt := 320) hx hb dX9_attempt_316 (by decide) ?_
    exact w_X9_attempt_320 X hP hS (lv_sub hl [0, 1] rfl) h
def f_X9_attempt_276 (M : Mem) (v2 : Int32) (s0 : Int32) (s1 : Int32) : Option (Mem) :=
  gd (inR s1 4) <| lt (sI M 159 s1.toNatClampNeg s0) fun M_1 => if (gI M_1 119 78) ≤ 0 then (f_X9_attempt_297 M_1 v2 0 v2) else (f_X9_attempt_297 M_1 v2 (gI M_1 119 78) v2)
set_option maxRecDepth 100000 in
set_option maxHeartbeats 4000000 in
theorem w_X9_attempt_276 (X : Cx p s m args meth c cX9_attempt RX9 5 none G cy) {out : Mem} {M : Mem} {v2 : Int32} {s0 : Int32} {s1 : Int32} (hP : Pic G B cy nT M H) (hS : va_S (FB B) s.heap H locs) (hl : lv_has ls 5 [(0, .ref (B + 119)), (2, .int v2)]) (h : f_X9_attempt_276 M v2 s0 s1 = some out) : W p l e rmX9_attempt s m args below meth c H locs 0 0 (MQ below (Qv G B cy nT out) args s 0 0 (FB B)) (F0 m 276 ls [.int s0, .int s1, .ref (B + 159)]) := by
  obtain ⟨hx, hb, hr, hml, hown, hts, hKn, hlk⟩ := id X
  unfold f_X9_attempt_276 at h
  obtain ⟨g_1, h⟩ := gd_el h
  obtain ⟨M_1, e_1, h⟩ := lt_el h
  refine r_iast X hP hS kq_159 g_1 e_1 dX9_attempt_276 (fun H locs hP hS => ?_)
  refine lv_aload_n hx hb dX9_attempt_277 rfl (lv_at hl 0 rfl) ?_
  refine gf_X9_136 X hP dX9_attempt_278 ?_
  refine lv_iload_n hx hb dX9_attempt_281 rfl (lv_at hl 1 rfl) ?_
  refine lv_aload_n hx hb dX9_attempt_282 rfl (lv_at hl 0 rfl) ?_
  refine gf_X9_278 X hP dX9_attempt_283 ?_
  refine lv_if_le (tgt := 296) hx hb dX9_attempt_286 (by decide) (fun hc => ?_) (fun hc => ?_)
  · replace h := if_elp h hc
    refine lv_iconst (v := 0) hx hb dX9_attempt_296 (by decide) ?_
    exact w_X9_attempt_297 X hP hS (lv_sub hl [0, 1] rfl) h
  · replace h := if_eln h hc
    refine lv_aload_n hx hb dX9_attempt_289 rfl (lv_at hl 0 rfl) ?_
    refine gf_X9_278 X hP dX9_attempt_290 ?_
    refine lv_goto (tgt := 297) hx hb dX9_attempt_293 (by decide) ?_
    exact w_X9_attempt_297 X hP hS (lv_sub hl [0, 1] rfl) h
def f_X9_attempt_244 (K117 : Mem → Int32 → Int32 → Option (Mem)) (M : Mem) (v2 : Int32) (v3 : Int32) : Option (Mem) :=
  K117 M v2 v3
set_option maxRecDepth 100000 in
set_option maxHeartbeats 4000000 in
theorem w_X9_attempt_244 (X : Cx p s m args meth c cX9_attempt RX9 5 none G cy) {out : Mem} {K117 : Mem → Int32 → Int32 → Option (Mem)} (hK117 : ∀ (H : Heap) (locs : List Loc) (ls : Array Slot) (M : Mem) (v2 : Int32) (v3 : Int32), Pic G B cy nT M H → va_S (FB B) s.heap H locs → lv_has ls 5 [(0, .ref (B + 119)), (2, .int v2), (3, .int v3)] → K117 M v2 v3 = some out → W p l e rmX9_attempt s m args below meth c H locs 0 0 (MQ below (Qv G B cy nT out) args s 0 0 (FB B)) (F0 m 117 ls [])) {M : Mem} {v2 : Int32} {v3 : Int32} (hP : Pic G B cy nT M H) (hS : va_S (FB B) s.heap H locs) (hl : lv_has ls 5 [(0, .ref (B + 119)), (2, .int v2), (3, .int v3)]) (h : f_X9_attempt_244 K117 M v2 v3 = some out) : W p l e rmX9_attempt s m args below meth c H locs 0 0 (MQ below (Qv G B cy nT out) args s 0 0 (FB B)) (F0 m 244 ls []) := by
  obtain ⟨hx, hb, hr, hml, hown, hts, hKn, hlk⟩ := id X
  unfold f_X9_attempt_244 at h
  refine lv_goto (tgt := 117) hx hb dX9_attempt_244 (by decide) ?_
  exact hK117 _ _ _ _ _ _ hP hS (lv_sub hl [0, 1, 2] rfl) h
def f_X9_attempt_243 (K117 : Mem → Int32 → Int32 → Option (Mem)) (M : Mem) (v2 : Int32) (s0 : Int32) : Option (Mem) :=
  f_X9_attempt_244 K117 M v2 s0
set_option maxRecDepth 100000 in
set_option maxHeartbeats 4000000 in
theorem w_X9_attempt_243 (X : Cx p s m args meth c cX9_attempt RX9 5 none G cy) {out : Mem} {K117 : Mem → Int32 → Int32 → Option (Mem)} (hK117 : ∀ (H : Heap) (locs : List Loc) (ls : Array Slot) (M : Mem) (v2 : Int32) (v3 : Int32), Pic G B cy nT M H → va_S (FB B) s.heap H locs → lv_has ls 5 [(0, .ref (B + 119)), (2, .int v2), (3, .int v3)] → K117 M v2 v3 = some out → W p l e rmX9_attempt s m args below meth c H locs 0 0 (MQ below (Qv G B cy nT out) args s 0 0 (FB B)) (F0 m 117 ls [])) {M : Mem} {v2 : Int32} {s0 : Int32} (hP : Pic G B cy nT M H) (hS : va_S (FB B) s.heap H locs) (hl : lv_has ls 5 [(0, .ref (B + 119)), (2, .int v2)]) (h : f_X9_attempt_243 K117 M v2 s0 = some out) : W p l e rmX9_attempt s m args below meth c H locs 0 0 (MQ below (Qv G B cy nT out) args s 0 0 (FB B)) (F0 m 243 ls [.int s0]) := by
  obtain ⟨hx, hb, hr, hml, hown, hts, hKn, hlk⟩ := id X
  unfold f_X9_attempt_243 at h
  refine lv_istore_n (lv' := [(3, .int s0), (0, .ref (B + 119)), (2, .int v2)]) hx hb dX9_attempt_243 rfl hl (by decide) rfl (fun ls hl => ?_)
  exact w_X9_attempt_244 X hK117 hP hS (lv_sub hl [1, 2, 0] rfl) h
def f_X9_attempt_238 (K117 : Mem → Int32 → Int32 → Option (Mem)) (M : Mem) (v2 : Int32) : Option (Mem) :=
  f_X9_attempt_243 K117 M v2 1
set_option maxRecDepth 100000 in
set_option maxHeartbeats 4000000 in
theorem w_X9_attempt_238 (X : Cx p s m args meth c cX9_attempt RX9 5 none G cy) {out : Mem} {K117 : Mem → Int32 → Int32 → Option (Mem)} (hK117 : ∀ (H : Heap) (locs : List Loc) (ls : Array Slot) (M : Mem) (v2 : Int32) (v3 : Int32), Pic G B cy nT M H → va_S (FB B) s.heap H locs → lv_has ls 5 [(0, .ref (B + 119)), (2, .int v2), (3, .int v3)] → K117 M v2 v3 = some out → W p l e rmX9_attempt s m args below meth c H locs 0 0 (MQ below (Qv G B cy nT out) args s 0 0 (FB B)) (F0 m 117 ls [])) {M : Mem} {v2 : Int32} (hP : Pic G B cy nT M H) (hS : va_S (FB B) s.heap H locs) (hl : lv_has ls 5 [(0, .ref (B + 119)), (2, .int v2)]) (h : f_X9_attempt_238 K117 M v2 = some out) : W p l e rmX9_attempt s m args below meth c H locs 0 0 (MQ below (Qv G B cy nT out) args s 0 0 (FB B)) (F0 m 238 ls []) := by
  obtain ⟨hx, hb, hr, hml, hown, hts, hKn, hlk⟩ := id X
  unfold f_X9_attempt_238 at h
  refine lv_iconst (v := 1) hx hb dX9_attempt_238 (by decide) ?_
  refine lv_goto (tgt := 243) hx hb dX9_attempt_239 (by decide) ?_
  exact w_X9_attempt_243 X hK117 hP hS (lv_sub hl [0, 1] rfl) h
def f_X9_attempt_117 : Nat → Mem → Int32 → Int32 → Option (Mem)
  | 0, _, _, _ => none
  | n + 1, M, v2, v3 => if v3 = 0 then (if (gI M 119 78) = 0 then (f_X9_attempt_276 M v2 0 v2) else (if (gI M 119 78) = (-1) then (f_X9_attempt_276 M v2 2 v2) else (f_X9_attempt_276 M v2 1 v2))) else (gd (inR v2 4) <| lt (((6 * v2) + (gI M 176 v2.toNatClampNeg)) - 1) fun v_1 => gd (inR v_1 24) <| gd (inR v_1 24) <| gd (inR (gI M 177 v_1.toNatClampNeg) 16) <| if (gI M 178 v_1.toNatClampNeg) < (gI M 128 (gI M 177 v_1.toNatClampNeg).toNatClampNeg) then (if (gI M 119 48) = 40 then (lt (sI M 119 78 10) fun M_1 => f_X9_attempt_244 (f_X9_attempt_117 n) M_1 v2 0) else (Option.bind (f_X9_goStep M v_1) fun r_1 => if (gI r_1 119 78) = 0 then (f_X9_attempt_238 (f_X9_attempt_117 n) r_1 v2) else (Option.bind (f_X9_isTaken r_1) fun r_2 => if (bI r_2.1) = 0 then (f_X9_attempt_243 (f_X9_attempt_117 n) r_2.2 v2 0) else (f_X9_attempt_238 (f_X9_attempt_117 n) r_2.2 v2)))) else (gd (inR v2 4) <| gd (inR v2 4) <| lt (sI M 176 v2.toNatClampNeg ((gI M 176 v2.toNatClampNeg) - 1)) fun M_2 => gd (inR v2 4) <| if (gI M_2 176 v2.toNatClampNeg) = 0 then (f_X9_attempt_244 (f_X9_attempt_117 n) M_2 v2 0) else (gd (inR (v_1 - 1) 24) <| gd (inR (v_1 - 1) 24) <| lt (sI M_2 178 (v_1 - 1).toNatClampNeg ((gI M_2 178 (v_1 - 1).toNatClampNeg) + 1)) fun M_3 => f_X9_attempt_244 (f_X9_attempt_117 n) M_3 v2 v3)))
set_option maxRecDepth 100000 in
set_option maxHeartbeats 4000000 in
theorem w_X9_attempt_117 (X : Cx p s m args meth c cX9_attempt RX9 5 none G cy) {out : Mem} : ∀ n : Nat, ∀ (H : Heap) (locs : List Loc) (ls : Array Slot) (M : Mem) (v2 : Int32) (v3 : Int32), Pic G B cy nT M H → va_S (FB B) s.heap H locs → lv_has ls 5 [(0, .ref (B + 119)), (2, .int v2), (3, .int v3)] → f_X9_attempt_117 n M v2 v3 = some out → W p l e rmX9_attempt s m args below meth c H locs 0 0 (MQ below (Qv G B cy nT out) args s 0 0 (FB B)) (F0 m 117 ls []) := by
  obtain ⟨hx, hb, hr, hml, hown, hts, hKn, hlk⟩ := id X
  intro n
  induction n with
  | zero =>
    intro H locs ls M v2 v3 hP hS hl h
    cases h
  | succ n ih =>
    intro H locs ls M v2 v3 hP hS hl h
    rw [f_X9_attempt_117] at h
    refine lv_iload_n hx hb dX9_attempt_117 rfl (lv_at hl 2 rfl) ?_
    refine lv_if_eq (tgt := 247) hx hb dX9_attempt_118 (by decide) (fun hc => ?_) (fun hc => ?_)
    · replace h := if_elp h hc
      refine lv_aload_n hx hb dX9_attempt_247 rfl (lv_at hl 0 rfl) ?_
      refine gf_X9_133 X hP dX9_attempt_248 ?_
      refine lv_iload_n hx hb dX9_attempt_251 rfl (lv_at hl 1 rfl) ?_
      refine lv_aload_n hx hb dX9_attempt_252 rfl (lv_at hl 0 rfl) ?_
      refine gf_X9_278 X hP dX9_attempt_253 ?_
      refine lv_if_ne (tgt := 263) hx hb dX9_attempt_256 (by decide) (fun hc => ?_) (fun hc => ?_)
      · replace h := if_eln h hc
        refine lv_aload_n hx hb dX9_attempt_263 rfl (lv_at hl 0 rfl) ?_
        refine gf_X9_278 X hP dX9_attempt_264 ?_
        refine lv_iconst (v := (-1)) hx hb dX9_attempt_267 (by decide) ?_
        refine lv_icmp_ne (tgt := 275) hx hb dX9_attempt_268 (by decide) (fun hc => ?_) (fun hc => ?_)
        · replace h := if_eln h hc
          refine lv_iconst (v := 1) hx hb dX9_attempt_275 (by decide) ?_
          exact w_X9_attempt_276 X hP hS (lv_sub hl [0, 1] rfl) h
        · replace h := if_elp h hc
          refine lv_iconst (v := 2) hx hb dX9_attempt_271 (by decide) ?_
          refine lv_goto (tgt := 276) hx hb dX9_attempt_272 (by decide) ?_
          exact w_X9_attempt_276 X hP hS (lv_sub hl [0, 1] rfl) h
      · replace h := if_elp h hc
        refine lv_iconst (v := 0) hx hb dX9_attempt_259 (by decide) ?_
        refine lv_goto (tgt := 276) hx hb dX9_attempt_260 (by decide) ?_
        exact w_X9_attempt_276 X hP hS (lv_sub hl [0, 1] rfl) h
    · replace h := if_eln h hc
      refine lv_bipush (v := 6) hx hb dX9_attempt_121 (by decide) ?_
      refine lv_iload_n hx hb dX9_attempt_123 rfl (lv_at hl 1 rfl) ?_
      refine lv_imul hx hb dX9_attempt_124 ?_
      refine lv_aload_n hx hb dX9_attempt_125 rfl (lv_at hl 0 rfl) ?_
      refine gf_X9_184 X hP dX9_attempt_126 ?_
      refine lv_iload_n hx hb dX9_attempt_129 rfl (lv_at hl 1 rfl) ?_
      obtain ⟨g_1, h⟩ := gd_el h
      refine r_iald X hP kq_176 g_1 dX9_attempt_130 ?_
      refine lv_iadd hx hb dX9_attempt_131 ?_
      refine lv_iconst (v := 1) hx hb dX9_attempt_132 (by decide) ?_
      refine lv_isub hx hb dX9_attempt_133 ?_
      obtain ⟨v_1, e_1, h⟩ := lt_el h
      refine r_topi e_1 ?_
      refine lv_istore (lv' := [(4, .int v_1), (0, .ref (B + 119)), (2, .int v2), (3, .int v3)]) hx hb dX9_attempt_134 hl (by decide) rfl (fun ls hl => ?_)
      refine lv_aload_n hx hb dX9_attempt_136 rfl (lv_at hl 1 rfl) ?_
      refine gf_X9_190 X hP dX9_attempt_137 ?_
      refine lv_iload hx hb dX9_attempt_140 (lv_at hl 0 rfl) ?_
      obtain ⟨g_2, h⟩ := gd_el h
      refine r_iald X hP kq_178 g_2 dX9_attempt_142 ?_
      refine lv_aload_n hx hb dX9_attempt_143 rfl (lv_at hl 1 rfl) ?_
      refine gf_X9_35 X hP dX9_attempt_144 ?_
      refine lv_aload_n hx hb dX9_attempt_147 rfl (lv_at hl 1 rfl) ?_
      refine gf_X9_187 X hP dX9_attempt_148 ?_
      refine lv_iload hx hb dX9_attempt_151 (lv_at hl 0 rfl) ?_
      obtain ⟨g_3, h⟩ := gd_el h
      refine r_iald X hP kq_177 g_3 dX9_attempt_153 ?_
      obtain ⟨g_4, h⟩ := gd_el h
      refine r_iald X hP kq_128 g_4 dX9_attempt_154 ?_
      refine lv_icmp_lt (tgt := 198) hx hb dX9_attempt_155 (by decide) (fun hc => ?_) (fun hc => ?_)
      · replace h := if_elp h hc
        refine lv_aload_n hx hb dX9_attempt_198 rfl (lv_at hl 1 rfl) ?_
        refine gf_X9_336 X hP dX9_attempt_199 ?_
        refine lv_bipush (v := 40) hx hb dX9_attempt_202 (by decide) ?_
        refine lv_icmp_ne (tgt := 218) hx hb dX9_attempt_204 (by decide) (fun hc => ?_) (fun hc => ?_)
        · replace h := if_eln h hc
          refine lv_aload_n hx hb dX9_attempt_218 rfl (lv_at hl 1 rfl) ?_
          refine lv_iload hx hb dX9_attempt_219 (lv_at hl 0 rfl) ?_
          obtain ⟨r_1, h_1, h⟩ := bd_el h
          refine cl_v (rn_V (C := RX9) (ci := 9) X hP (c_X9_goStep h_1) kq_119 rfl k_739 k_740 k_912 k_9 k_741 rfl hd_X9_goStep (n := 1) ⟨⟨rfl, rfl⟩, Nat.le_of_ble_eq_true rfl, Nat.le_of_ble_eq_true rfl⟩ (As := [.int v_1]) (rest := []) rfl hl.1 rfl (Nat.le_of_ble_eq_true rfl) dX9_attempt_221 ⟨Nat.zero_le _, Nat.zero_le _⟩) hS (fun H locs hP hS => ?_)
          refine lv_aload_n hx hb dX9_attempt_224 rfl (lv_at hl 1 rfl) ?_
          refine gf_X9_278 X hP dX9_attempt_225 ?_
          refine lv_if_eq (tgt := 238) hx hb dX9_attempt_228 (by decide) (fun hc => ?_) (fun hc => ?_)
          · replace h := if_elp h hc
            exact w_X9_attempt_238 X ih hP hS (lv_sub hl [1, 2] rfl) h
          · replace h := if_eln h hc
            refine lv_aload_n hx hb dX9_attempt_231 rfl (lv_at hl 1 rfl) ?_
            obtain ⟨r_2, h_2, h⟩ := bd_el h
            refine cl_i (rn_V (C := RX9) (ci := 9) X hP (c_X9_isTaken h_2) kq_119 rfl k_788 k_789 k_925 k_9 k_790 rfl hd_X9_isTaken (n := 0) ⟨⟨rfl, rfl⟩, Nat.le_of_ble_eq_true rfl, Nat.le_of_ble_eq_true rfl⟩ (As := []) (rest := []) rfl hl.1 rfl (Nat.le_of_ble_eq_true rfl) dX9_attempt_232 ⟨Nat.zero_le _, Nat.zero_le _⟩) hS (fun H locs hP hS => ?_)
            refine lv_if_eq (tgt := 242) hx hb dX9_attempt_235 (by decide) (fun hc => ?_) (fun hc => ?_)
            · replace h := if_elp h hc
              refine lv_iconst (v := 0) hx hb dX9_attempt_242 (by decide) ?_
              exact w_X9_attempt_243 X ih hP hS (lv_sub hl [1, 2] rfl) h
            · replace h := if_eln h hc
              exact w_X9_attempt_238 X ih hP hS (lv_sub hl [1, 2] rfl) h
        · replace h := if_elp h hc
          refine lv_aload_n hx hb dX9_attempt_207 rfl (lv_at hl 1 rfl) ?_
          refine lv_bipush (v := 10) hx hb dX9_attempt_208 (by decide) ?_
          obtain ⟨M_1, e_2, h⟩ := lt_el h
          refine pf_X9_278 X hP hS e_2 dX9_attempt_210 (fun H locs hP hS => ?_)
          refine lv_iconst (v := 0) hx hb dX9_attempt_213 (by decide) ?_
          refine lv_istore_n (lv' := [(3, .int 0), (4, .int v_1), (0, .ref (B + 119)), (2, .int v2)]) hx hb dX9_attempt_214 rfl hl (by decide) rfl (fun ls hl => ?_)
          refine lv_goto (tgt := 244) hx hb dX9_attempt_215 (by decide) ?_
          exact w_X9_attempt_244 X ih hP hS (lv_sub hl [2, 3, 0] rfl) h
      · replace h := if_eln h hc
        refine lv_aload_n hx hb dX9_attempt_158 rfl (lv_at hl 1 rfl) ?_
        refine gf_X9_184 X hP dX9_attempt_159 ?_
        refine lv_iload_n hx hb dX9_attempt_162 rfl (lv_at hl 2 rfl) ?_
        refine lv_dup2_11 hx hb dX9_attempt_163 rfl rfl ?_
        obtain ⟨g_5, h⟩ := gd_el h
        refine r_iald X hP kq_176 g_5 dX9_attempt_164 ?_
        refine lv_iconst (v := 1) hx hb dX9_attempt_165 (by decide) ?_
        refine lv_isub hx hb dX9_attempt_166 ?_
        obtain ⟨g_6, h⟩ := gd_el h
        obtain ⟨M_2, e_3, h⟩ := lt_el h
        refine r_iast X hP hS kq_176 g_6 e_3 dX9_attempt_167 (fun H locs hP hS => ?_)
        refine lv_aload_n hx hb dX9_attempt_168 rfl (lv_at hl 1 rfl) ?_
        refine gf_X9_184 X hP dX9_attempt_169 ?_
        refine lv_iload_n hx hb dX9_attempt_172 rfl (lv_at hl 2 rfl) ?_
        obtain ⟨g_7, h⟩ := gd_el h
        refine r_iald X hP kq_176 g_7 dX9_attempt_173 ?_
        refine lv_if_ne (tgt := 182) hx hb dX9_attempt_174 (by decide) (fun hc => ?_) (fun hc => ?_)
        · replace h := if_eln h hc
          refine lv_aload_n hx hb dX9_attempt_182 rfl (lv_at hl 1 rfl) ?_
          refine gf_X9_190 X hP dX9_attempt_183 ?_
          refine lv_iload hx hb dX9_attempt_186 (lv_at hl 0 rfl) ?_
          refine lv_iconst (v := 1) hx hb dX9_attempt_188 (by decide) ?_
          refine lv_isub hx hb dX9_attempt_189 ?_
          refine lv_dup2_11 hx hb dX9_attempt_190 rfl rfl ?_
          obtain ⟨g_8, h⟩ := gd_el h
          refine r_iald X hP kq_178 g_8 dX9_attempt_191 ?_
          refine lv_iconst (v := 1) hx hb dX9_attempt_192 (by decide) ?_
          refine lv_iadd hx hb dX9_attempt_193 ?_
          obtain ⟨g_9, h⟩ := gd_el h
          obtain ⟨M_3, e_4, h⟩ := lt_el h
          refine r_iast X hP hS kq_178 g_9 e_4 dX9_attempt_194 (fun H locs hP hS => ?_)
          refine lv_goto (tgt := 244) hx hb dX9_attempt_195 (by decide) ?_
          exact w_X9_attempt_244 X ih hP hS (lv_sub hl [1, 2, 3] rfl) h
        · replace h := if_elp h hc
          refine lv_iconst (v := 0) hx hb dX9_attempt_177 (by decide) ?_
          refine lv_istore_n (lv' := [(3, .int 0), (4, .int v_1), (0, .ref (B + 119)), (2, .int v2)]) hx hb dX9_attempt_178 rfl hl (by decide) rfl (fun ls hl => ?_)
          refine lv_goto (tgt := 244) hx hb dX9_attempt_179 (by decide) ?_
          exact w_X9_attempt_244 X ih hP hS (lv_sub hl [2, 3, 0] rfl) h
def f_X9_attempt_68 : Nat → Mem → Int32 → Int32 → Int32 → Option (Mem)
  | 0, _, _, _, _ => none
  | n + 1, M, v1, v2, v3 => if 40 ≤ v3 then (gd (inR v1 20) <| Option.bind (f_X9_enter M (gI M 137 v1.toNatClampNeg) 0) fun r_1 => f_X9_attempt_117 FU r_1 v2 1) else (gd (inR ((40 * v2) + v3) 160) <| lt (sB M 163 ((40 * v2) + v3).toNatClampNeg (iB 0)) fun M_1 => gd (inR ((40 * v2) + v3) 160) <| lt (sB M_1 168 ((40 * v2) + v3).toNatClampNeg (iB 0)) fun M_2 => lt (v3 + 1) fun v_1 => (f_X9_attempt_68 n) M_2 v1 v2 v_1)
set_option maxRecDepth 100000 in
set_option maxHeartbeats 4000000 in
theorem w_X9_attempt_68 (X : Cx p s m args meth c cX9_attempt RX9 5 none G cy) {out : Mem} : ∀ n : Nat, ∀ (H : Heap) (locs : List Loc) (ls : Array Slot) (M : Mem) (v1 : Int32) (v2 : Int32) (v3 : Int32), Pic G B cy nT M H → va_S (FB B) s.heap H locs → lv_has ls 5 [(0, .ref (B + 119)), (1, .int v1), (2, .int v2), (3, .int v3)] → f_X9_attempt_68 n M v1 v2 v3 = some out → W p l e rmX9_attempt s m args below meth c H locs 0 0 (MQ below (Qv G B cy nT out) args s 0 0 (FB B)) (F0 m 68 ls []) := by
  obtain ⟨hx, hb, hr, hml, hown, hts, hKn, hlk⟩ := id X
  intro n
  induction n with
  | zero =>
    intro H locs ls M v1 v2 v3 hP hS hl h
    cases h
  | succ n ih =>
    intro H locs ls M v1 v2 v3 hP hS hl h
    rw [f_X9_attempt_68] at h
    refine lv_iload_n hx hb dX9_attempt_68 rfl (lv_at hl 3 rfl) ?_
    refine lv_bipush (v := 40) hx hb dX9_attempt_69 (by decide) ?_
    refine lv_icmp_ge (tgt := 104) hx hb dX9_attempt_71 (by decide) (fun hc => ?_) (fun hc => ?_)
    · replace h := if_elp h hc
      refine lv_aload_n hx hb dX9_attempt_104 rfl (lv_at hl 0 rfl) ?_
      refine lv_aload_n hx hb dX9_attempt_105 rfl (lv_at hl 0 rfl) ?_
      refine gf_X9_62 X hP dX9_attempt_106 ?_
      refine lv_iload_n hx hb dX9_attempt_109 rfl (lv_at hl 1 rfl) ?_
      obtain ⟨g_1, h⟩ := gd_el h
      refine r_iald X hP kq_137 g_1 dX9_attempt_110 ?_
      refine lv_iconst (v := 0) hx hb dX9_attempt_111 (by decide) ?_
      obtain ⟨r_1, h_1, h⟩ := bd_el h
      refine cl_v (rn_V (C := RX9) (ci := 9) X hP (c_X9_enter h_1) kq_119 rfl k_733 k_734 k_910 k_9 k_735 rfl hd_X9_enter (n := 2) ⟨⟨rfl, rfl⟩, Nat.le_of_ble_eq_true rfl, Nat.le_of_ble_eq_true rfl⟩ (As := [.int (gI M 137 v1.toNatClampNeg), .int 0]) (rest := []) rfl hl.1 rfl (Nat.le_of_ble_eq_true rfl) dX9_attempt_112 ⟨Nat.zero_le _, Nat.zero_le _⟩) hS (fun H locs hP hS => ?_)
      refine lv_iconst (v := 1) hx hb dX9_attempt_115 (by decide) ?_
      refine lv_istore_n (lv' := [(3, .int 1), (0, .ref (B + 119)), (1, .int v1), (2, .int v2)]) hx hb dX9_attempt_116 rfl hl (by decide) rfl (fun ls hl => ?_)
      exact w_X9_attempt_117 X FU _ _ _ _ _ _ hP hS (lv_sub hl [1, 3, 0] rfl) h
    · replace h := if_eln h hc
      refine lv_aload_n hx hb dX9_attempt_74 rfl (lv_at hl 0 rfl) ?_
      refine gf_X9_145 X hP dX9_attempt_75 ?_
      refine lv_bipush (v := 40) hx hb dX9_attempt_78 (by decide) ?_
      refine lv_iload_n hx hb dX9_attempt_80 rfl (lv_at hl 2 rfl) ?_
      refine lv_imul hx hb dX9_attempt_81 ?_
      refine lv_iload_n hx hb dX9_attempt_82 rfl (lv_at hl 3 rfl) ?_
      refine lv_iadd hx hb dX9_attempt_83 ?_
      refine lv_iconst (v := 0) hx hb dX9_attempt_84 (by decide) ?_
      obtain ⟨g_2, h⟩ := gd_el h
      obtain ⟨M_1, e_1, h⟩ := lt_el h
      refine r_zast X hP hS kq_163 g_2 e_1 dX9_attempt_85 (fun H locs hP hS => ?_)
      refine lv_aload_n hx hb dX9_attempt_86 rfl (lv_at hl 0 rfl) ?_
      refine gf_X9_160 X hP dX9_attempt_87 ?_
      refine lv_bipush (v := 40) hx hb dX9_attempt_90 (by decide) ?_
      refine lv_iload_n hx hb dX9_attempt_92 rfl (lv_at hl 2 rfl) ?_
      refine lv_imul hx hb dX9_attempt_93 ?_
      refine lv_iload_n hx hb dX9_attempt_94 rfl (lv_at hl 3 rfl) ?_
      refine lv_iadd hx hb dX9_attempt_95 ?_
      refine lv_iconst (v := 0) hx hb dX9_attempt_96 (by decide) ?_
      obtain ⟨g_3, h⟩ := gd_el h
      obtain ⟨M_2, e_2, h⟩ := lt_el h
      refine r_zast X hP hS kq_168 g_3 e_2 dX9_attempt_97 (fun H locs hP hS => ?_)
      obtain ⟨v_1, e_3, h⟩ := lt_el h
      refine lv_iinc (v := v_1) (lv' := [(3, .int v_1), (0, .ref (B + 119)), (1, .int v1), (2, .int v2)]) hx hb dX9_attempt_98 hl (k := 3) rfl (by rw [e_3]; rfl) (by decide) rfl (fun ls hl => ?_)
      refine lv_goto (tgt := 68) hx hb dX9_attempt_101 (by decide) ?_
      exact ih _ _ _ _ _ _ _ hP hS (lv_sub hl [1, 2, 3, 0] rfl) h
def f_X9_attempt (M : Mem) (a1 : Int32) (a2 : Int32) : Option (Mem) :=
  lt (sI M 119 46 a2) fun M_1 => lt (sI M_1 119 41 ((gI M_1 119 41) + 1)) fun M_2 => gd (inR a1 20) <| gd (inR a1 20) <| lt (sI M_2 140 a1.toNatClampNeg ((gI M_2 140 a1.toNatClampNeg) + 1)) fun M_3 => lt (sL M_3 119 47 0) fun M_4 => lt (sI M_4 119 48 0) fun M_5 => lt (sI M_5 119 78 0) fun M_6 => lt (sI M_6 119 79 0) fun M_7 => gd (inR a2 4) <| lt (sI M_7 176 a2.toNatClampNeg 0) fun M_8 => gd (inR a2 4) <| lt (sI M_8 170 a2.toNatClampNeg 0) fun M_9 => gd (inR a2 4) <| lt (sI M_9 172 a2.toNatClampNeg 0) fun M_10 => f_X9_attempt_68 FU M_10 a1 a2 0
set_option maxRecDepth 100000 in
set_option maxHeartbeats 4000000 in
theorem c_X9_attempt {l : Launch} {G : va_G} {cy : Nat → ClassId} {B nT : Nat} {M : Mem} {a1 : Int32} {a2 : Int32} {out : Mem} (h : f_X9_attempt M a1 a2 = some out) : Met l yX9_attempt (wsU yX9_attempt cX9_attempt 5 none) rmX9_attempt (va_Pc [.ref (B + 119), .int a1, .int a2] (PU G B cy nT M)) (Qv G B cy nT out) 0 0 (FB B) := by
  refine r_met (by decide +kernel) RX9 rfl (Nat.le_of_ble_eq_true rfl) ?_
  intro p e s m args below meth c ls X hP hl
  have hl : lv_has ls 5 [(0, .ref (B + 119)), (1, .int a1), (2, .int a2)] := hl
  have hS : va_S (FB B) s.heap s.heap [] := va_S.rf
  obtain ⟨hx, hb, hr, hml, hown, hts, hKn, hlk⟩ := id X
  unfold f_X9_attempt at h
  refine lv_aload_n hx hb dX9_attempt_0 rfl (lv_at hl 0 rfl) ?_
  refine lv_iload_n hx hb dX9_attempt_1 rfl (lv_at hl 2 rfl) ?_
  obtain ⟨M_1, e_1, h⟩ := lt_el h
  refine pf_X9_267 X hP hS e_1 dX9_attempt_2 (fun H locs hP hS => ?_)
  refine lv_aload_n hx hb dX9_attempt_5 rfl (lv_at hl 0 rfl) ?_
  refine lv_dup hx hb dX9_attempt_6 rfl ?_
  refine gf_X9_351 X hP dX9_attempt_7 ?_
  refine lv_iconst (v := 1) hx hb dX9_attempt_10 (by decide) ?_
  refine lv_iadd hx hb dX9_attempt_11 ?_
  obtain ⟨M_2, e_2, h⟩ := lt_el h
  refine pf_X9_351 X hP hS e_2 dX9_attempt_12 (fun H locs hP hS => ?_)
  refine lv_aload_n hx hb dX9_attempt_15 rfl (lv_at hl 0 rfl) ?_
  refine gf_X9_71 X hP dX9_attempt_16 ?_
  refine lv_iload_n hx hb dX9_attempt_19 rfl (lv_at hl 1 rfl) ?_
  refine lv_dup2_11 hx hb dX9_attempt_20 rfl rfl ?_
  obtain ⟨g_1, h⟩ := gd_el h
  refine r_iald X hP kq_140 g_1 dX9_attempt_21 ?_
  refine lv_iconst (v := 1) hx hb dX9_attempt_22 (by decide) ?_
  refine lv_iadd hx hb dX9_attempt_23 ?_
  obtain ⟨g_2, h⟩ := gd_el h
  obtain ⟨M_3, e_3, h⟩ := lt_el h
  refine r_iast X hP hS kq_140 g_2 e_3 dX9_attempt_24 (fun H locs hP hS => ?_)
  refine lv_aload_n hx hb dX9_attempt_25 rfl (lv_at hl 0 rfl) ?_
  refine lv_lconst (v := 0) hx hb dX9_attempt_26 rfl ?_
  obtain ⟨M_4, e_4, h⟩ := lt_el h
  refine pf_X9_287 X hP hS e_4 dX9_attempt_27 (fun H locs hP hS => ?_)
  refine lv_aload_n hx hb dX9_attempt_30 rfl (lv_at hl 0 rfl) ?_
  refine lv_iconst (v := 0) hx hb dX9_attempt_31 (by decide) ?_
  obtain ⟨M_5, e_5, h⟩ := lt_el h
  refine pf_X9_336 X hP hS e_5 dX9_attempt_32 (fun H locs hP hS => ?_)
  refine lv_aload_n hx hb dX9_attempt_35 rfl (lv_at hl 0 rfl) ?_
  refine lv_iconst (v := 0) hx hb dX9_attempt_36 (by decide) ?_
  obtain ⟨M_6, e_6, h⟩ := lt_el h
  refine pf_X9_278 X hP hS e_6 dX9_attempt_37 (fun H locs hP hS => ?_)
  refine lv_aload_n hx hb dX9_attempt_40 rfl (lv_at hl 0 rfl) ?_
  refine lv_iconst (v := 0) hx hb dX9_attempt_41 (by decide) ?_
  obtain ⟨M_7, e_7, h⟩ := lt_el h
  refine pf_X9_333 X hP hS e_7 dX9_attempt_42 (fun H locs hP hS => ?_)
  refine lv_aload_n hx hb dX9_attempt_45 rfl (lv_at hl 0 rfl) ?_
  refine gf_X9_184 X hP dX9_attempt_46 ?_
  refine lv_iload_n hx hb dX9_attempt_49 rfl (lv_at hl 2 rfl) ?_
  refine lv_iconst (v := 0) hx hb dX9_attempt_50 (by decide) ?_
  obtain ⟨g_3, h⟩ := gd_el h
  obtain ⟨M_8, e_8, h⟩ := lt_el h
  refine r_iast X hP hS kq_176 g_3 e_8 dX9_attempt_51 (fun H locs hP hS => ?_)
  refine lv_aload_n hx hb dX9_attempt_52 rfl (lv_at hl 0 rfl) ?_
  refine gf_X9_166 X hP dX9_attempt_53 ?_
  refine lv_iload_n hx hb dX9_attempt_56 rfl (lv_at hl 2 rfl) ?_
  refine lv_iconst (v := 0) hx hb dX9_attempt_57 (by decide) ?_
  obtain ⟨g_4, h⟩ := gd_el h
  obtain ⟨M_9, e_9, h⟩ := lt_el h
  refine r_iast X hP hS kq_170 g_4 e_9 dX9_attempt_58 (fun H locs hP hS => ?_)
  refine lv_aload_n hx hb dX9_attempt_59 rfl (lv_at hl 0 rfl) ?_
  refine gf_X9_172 X hP dX9_attempt_60 ?_
  refine lv_iload_n hx hb dX9_attempt_63 rfl (lv_at hl 2 rfl) ?_
  refine lv_iconst (v := 0) hx hb dX9_attempt_64 (by decide) ?_
  obtain ⟨g_5, h⟩ := gd_el h
  obtain ⟨M_10, e_10, h⟩ := lt_el h
  refine r_iast X hP hS kq_172 g_5 e_10 dX9_attempt_65 (fun H locs hP hS => ?_)
  refine lv_iconst (v := 0) hx hb dX9_attempt_66 (by decide) ?_
  refine lv_istore_n (lv' := [(3, .int 0), (0, .ref (B + 119)), (1, .int a1), (2, .int a2)]) hx hb dX9_attempt_67 rfl hl (by decide) rfl (fun ls hl => ?_)
  exact w_X9_attempt_68 X FU _ _ _ _ _ _ _ hP hS (lv_sub hl [1, 2, 3, 0] rfl) h
abbrev rmX9_isStale : Room := { frames := 0, cells := 0, slots := 0, locals := 0 }
def f_X9_isStale_44 (M : Mem) (K2 : Int32 → Int32 → Option (Bool)) (v1 : Int32) (v2 : Int32) : Option (Bool) :=
  lt (v2 + 1) fun v_1 => K2 v1 v_1
set_option maxRecDepth 100000 in
set_option maxHeartbeats 4000000 in
theorem w_X9_isStale_44 (X : Cx p s m args meth c cX9_isStale RX9 3 (some .boolean) G cy) {M : Mem} {out : Bool} {K2 : Int32 → Int32 → Option (Bool)} (hK2 : ∀ (H : Heap) (locs : List Loc) (ls : Array Slot) (v1 : Int32) (v2 : Int32), Pic G B cy nT M H → va_S (FB B) s.heap H locs → lv_has ls 3 [(0, .ref (B + 119)), (1, .int v1), (2, .int v2)] → K2 v1 v2 = some out → W p l e rmX9_isStale s m args below meth c H locs 0 0 (MQ below (Qi G B cy nT (bI out) M) args s 0 0 (FB B)) (F0 m 2 ls [])) {v1 : Int32} {v2 : Int32} (hP : Pic G B cy nT M H) (hS : va_S (FB B) s.heap H locs) (hl : lv_has ls 3 [(0, .ref (B + 119)), (1, .int v1), (2, .int v2)]) (h : f_X9_isStale_44 M K2 v1 v2 = some out) : W p l e rmX9_isStale s m args below meth c H locs 0 0 (MQ below (Qi G B cy nT (bI out) M) args s 0 0 (FB B)) (F0 m 44 ls []) := by
  obtain ⟨hx, hb, hr, hml, hown, hts, hKn, hlk⟩ := id X
  unfold f_X9_isStale_44 at h
  obtain ⟨v_1, e_1, h⟩ := lt_el h
  refine lv_iinc (v := v_1) (lv' := [(2, .int v_1), (0, .ref (B + 119)), (1, .int v1)]) hx hb dX9_isStale_44 hl (k := 2) rfl (by rw [e_1]; rfl) (by decide) rfl (fun ls hl => ?_)
  refine lv_goto (tgt := 2) hx hb dX9_isStale_47 (by decide) ?_
  exact hK2 _ _ _ _ _ hP hS (lv_sub hl [1, 2, 0] rfl) h
def f_X9_isStale_2 (M : Mem) : Nat → Int32 → Int32 → Option (Bool)
  | 0, _, _ => none
  | n + 1, v1, v2 => if 40 ≤ v2 then (some false) else (gd (inR ((40 * v1) + v2) 160) <| if (bI (gB M 168 ((40 * v1) + v2).toNatClampNeg)) = 0 then (f_X9_isStale_44 M (f_X9_isStale_2 M n) v1 v2) else (gd (inR ((40 * v1) + v2) 160) <| gd (inR v2 40) <| if (gI M 169 ((40 * v1) + v2).toNatClampNeg) = (gI M 124 v2.toNatClampNeg) then (f_X9_isStale_44 M (f_X9_isStale_2 M n) v1 v2) else (some true)))
set_option maxRecDepth 100000 in
set_option maxHeartbeats 4000000 in
theorem w_X9_isStale_2 (X : Cx p s m args meth c cX9_isStale RX9 3 (some .boolean) G cy) {M : Mem} {out : Bool} : ∀ n : Nat, ∀ (H : Heap) (locs : List Loc) (ls : Array Slot) (v1 : Int32) (v2 : Int32), Pic G B cy nT M H → va_S (FB B) s.heap H locs → lv_has ls 3 [(0, .ref (B + 119)), (1, .int v1), (2, .int v2)] → f_X9_isStale_2 M n v1 v2 = some out → W p l e rmX9_isStale s m args below meth c H locs 0 0 (MQ below (Qi G B cy nT (bI out) M) args s 0 0 (FB B)) (F0 m 2 ls []) := by
  obtain ⟨hx, hb, hr, hml, hown, hts, hKn, hlk⟩ := id X
  intro n
  induction n with
  | zero =>
    intro H locs ls v1 v2 hP hS hl h
    cases h
  | succ n ih =>
    intro H locs ls v1 v2 hP hS hl h
    rw [f_X9_isStale_2] at h
    refine lv_iload_n hx hb dX9_isStale_2 rfl (lv_at hl 2 rfl) ?_
    refine lv_bipush (v := 40) hx hb dX9_isStale_3 (by decide) ?_
    refine lv_icmp_ge (tgt := 50) hx hb dX9_isStale_5 (by decide) (fun hc => ?_) (fun hc => ?_)
    · replace h := if_elp h hc
      refine lv_iconst (v := 0) hx hb dX9_isStale_50 (by decide) ?_
      exact r_zret X hP hS rfl (prz h) rfl dX9_isStale_51
    · replace h := if_eln h hc
      refine lv_aload_n hx hb dX9_isStale_8 rfl (lv_at hl 0 rfl) ?_
      refine gf_X9_160 X hP dX9_isStale_9 ?_
      refine lv_bipush (v := 40) hx hb dX9_isStale_12 (by decide) ?_
      refine lv_iload_n hx hb dX9_isStale_14 rfl (lv_at hl 1 rfl) ?_
      refine lv_imul hx hb dX9_isStale_15 ?_
      refine lv_iload_n hx hb dX9_isStale_16 rfl (lv_at hl 2 rfl) ?_
      refine lv_iadd hx hb dX9_isStale_17 ?_
      obtain ⟨g_1, h⟩ := gd_el h
      refine r_zald X hP kq_168 g_1 dX9_isStale_18 ?_
      refine lv_if_eq (tgt := 44) hx hb dX9_isStale_19 (by decide) (fun hc => ?_) (fun hc => ?_)
      · replace h := if_elp h hc
        exact w_X9_isStale_44 X ih hP hS (lv_sub hl [0, 1, 2] rfl) h
      · replace h := if_eln h hc
        refine lv_aload_n hx hb dX9_isStale_22 rfl (lv_at hl 0 rfl) ?_
        refine gf_X9_163 X hP dX9_isStale_23 ?_
        refine lv_bipush (v := 40) hx hb dX9_isStale_26 (by decide) ?_
        refine lv_iload_n hx hb dX9_isStale_28 rfl (lv_at hl 1 rfl) ?_
        refine lv_imul hx hb dX9_isStale_29 ?_
        refine lv_iload_n hx hb dX9_isStale_30 rfl (lv_at hl 2 rfl) ?_
        refine lv_iadd hx hb dX9_isStale_31 ?_
        obtain ⟨g_2, h⟩ := gd_el h
        refine r_iald X hP kq_169 g_2 dX9_isStale_32 ?_
        refine lv_aload_n hx hb dX9_isStale_33 rfl (lv_at hl 0 rfl) ?_
        refine gf_X9_23 X hP dX9_isStale_34 ?_
        refine lv_iload_n hx hb dX9_isStale_37 rfl (lv_at hl 2 rfl) ?_
        obtain ⟨g_3, h⟩ := gd_el h
        refine r_iald X hP kq_124 g_3 dX9_isStale_38 ?_
        refine lv_icmp_eq (tgt := 44) hx hb dX9_isStale_39 (by decide) (fun hc => ?_) (fun hc => ?_)
        · replace h := if_elp h hc
          exact w_X9_isStale_44 X ih hP hS (lv_sub hl [0, 1, 2] rfl) h
        · replace h := if_eln h hc
          refine lv_iconst (v := 1) hx hb dX9_isStale_42 (by decide) ?_
          exact r_zret X hP hS rfl (prz h) rfl dX9_isStale_43
def f_X9_isStale (M : Mem) (a1 : Int32) : Option (Bool) :=
  f_X9_isStale_2 M FU a1 0
set_option maxRecDepth 100000 in
set_option maxHeartbeats 4000000 in
theorem c_X9_isStale {l : Launch} {G : va_G} {cy : Nat → ClassId} {B nT : Nat} {M : Mem} {a1 : Int32} {out : Bool} (h : f_X9_isStale M a1 = some out) : Met l yX9_isStale (wsU yX9_isStale cX9_isStale 3 (some .boolean)) rmX9_isStale (va_Pc [.ref (B + 119), .int a1] (PU G B cy nT M)) (Qi G B cy nT (bI out) M) 0 0 (FB B) := by
  refine r_met (by decide +kernel) RX9 rfl (Nat.le_of_ble_eq_true rfl) ?_
  intro p e s m args below meth c ls X hP hl
  have hl : lv_has ls 3 [(0, .ref (B + 119)), (1, .int a1)] := hl
  have hS : va_S (FB B) s.heap s.heap [] := va_S.rf
  obtain ⟨hx, hb, hr, hml, hown, hts, hKn, hlk⟩ := id X
  unfold f_X9_isStale at h
  refine lv_iconst (v := 0) hx hb dX9_isStale_0 (by decide) ?_
  refine lv_istore_n (lv' := [(2, .int 0), (0, .ref (B + 119)), (1, .int a1)]) hx hb dX9_isStale_1 rfl hl (by decide) rfl (fun ls hl => ?_)
  exact w_X9_isStale_2 X FU _ _ _ _ _ hP hS (lv_sub hl [1, 2, 0] rfl) h
abbrev rmX9_counts : Room := { frames := 0, cells := 0, slots := 0, locals := 0 }
def f_X9_counts_132 : Nat → Mem → Int32 → Int32 → Int32 → Option (Mem)
  | 0, _, _, _, _ => none
  | n + 1, M, v1, v2, v4 => gd (inR v1 20) <| if (gI M 152 v1.toNatClampNeg) ≤ v4 then (some M) else (gd (inR ((6 * v2) + v4) 24) <| gd (inR ((6 * v1) + v4) 120) <| lt (sI M 153 ((6 * v1) + v4).toNatClampNeg (gI M 177 ((6 * v2) + v4).toNatClampNeg)) fun M_1 => gd (inR ((6 * v2) + v4) 24) <| gd (inR ((6 * v1) + v4) 120) <| lt (sI M_1 154 ((6 * v1) + v4).toNatClampNeg (gI M_1 178 ((6 * v2) + v4).toNatClampNeg)) fun M_2 => lt (v4 + 1) fun v_1 => (f_X9_counts_132 n) M_2 v1 v2 v_1)
set_option maxRecDepth 100000 in
set_option maxHeartbeats 4000000 in
theorem w_X9_counts_132 (X : Cx p s m args meth c cX9_counts RX9 5 none G cy) {out : Mem} : ∀ n : Nat, ∀ (H : Heap) (locs : List Loc) (ls : Array Slot) (M : Mem) (v1 : Int32) (v2 : Int32) (v4 : Int32), Pic G B cy nT M H → va_S (FB B) s.heap H locs → lv_has ls 5 [(0, .ref (B + 119)), (1, .int v1), (2, .int v2), (4, .int v4)] → f_X9_counts_132 n M v1 v2 v4 = some out → W p l e rmX9_counts s m args below meth c H locs 0 0 (MQ below (Qv G B cy nT out) args s 0 0 (FB B)) (F0 m 132 ls []) := by
  obtain ⟨hx, hb, hr, hml, hown, hts, hKn, hlk⟩ := id X
  intro n
  induction n with
  | zero =>
    intro H locs ls M v1 v2 v4 hP hS hl h
    cases h
  | succ n ih =>
    intro H locs ls M v1 v2 v4 hP hS hl h
    rw [f_X9_counts_132] at h
    refine lv_iload hx hb dX9_counts_132 (lv_at hl 3 rfl) ?_
    refine lv_aload_n hx hb dX9_counts_134 rfl (lv_at hl 0 rfl) ?_
    refine gf_X9_108 X hP dX9_counts_135 ?_
    refine lv_iload_n hx hb dX9_counts_138 rfl (lv_at hl 1 rfl) ?_
    obtain ⟨g_1, h⟩ := gd_el h
    refine r_iald X hP kq_152 g_1 dX9_counts_139 ?_
    refine lv_icmp_ge (tgt := 197) hx hb dX9_counts_140 (by decide) (fun hc => ?_) (fun hc => ?_)
    · replace h := if_elp h hc
      exact r_vret X hP hS (pr0 h) dX9_counts_197
    · replace h := if_eln h hc
      refine lv_aload_n hx hb dX9_counts_143 rfl (lv_at hl 0 rfl) ?_
      refine gf_X9_111 X hP dX9_counts_144 ?_
      refine lv_bipush (v := 6) hx hb dX9_counts_147 (by decide) ?_
      refine lv_iload_n hx hb dX9_counts_149 rfl (lv_at hl 1 rfl) ?_
      refine lv_imul hx hb dX9_counts_150 ?_
      refine lv_iload hx hb dX9_counts_151 (lv_at hl 3 rfl) ?_
      refine lv_iadd hx hb dX9_counts_153 ?_
      refine lv_aload_n hx hb dX9_counts_154 rfl (lv_at hl 0 rfl) ?_
      refine gf_X9_187 X hP dX9_counts_155 ?_
      refine lv_bipush (v := 6) hx hb dX9_counts_158 (by decide) ?_
      refine lv_iload_n hx hb dX9_counts_160 rfl (lv_at hl 2 rfl) ?_
      refine lv_imul hx hb dX9_counts_161 ?_
      refine lv_iload hx hb dX9_counts_162 (lv_at hl 3 rfl) ?_
      refine lv_iadd hx hb dX9_counts_164 ?_
      obtain ⟨g_2, h⟩ := gd_el h
      refine r_iald X hP kq_177 g_2 dX9_counts_165 ?_
      obtain ⟨g_3, h⟩ := gd_el h
      obtain ⟨M_1, e_1, h⟩ := lt_el h
      refine r_iast X hP hS kq_153 g_3 e_1 dX9_counts_166 (fun H locs hP hS => ?_)
      refine lv_aload_n hx hb dX9_counts_167 rfl (lv_at hl 0 rfl) ?_
      refine gf_X9_114 X hP dX9_counts_168 ?_
      refine lv_bipush (v := 6) hx hb dX9_counts_171 (by decide) ?_
      refine lv_iload_n hx hb dX9_counts_173 rfl (lv_at hl 1 rfl) ?_
      refine lv_imul hx hb dX9_counts_174 ?_
      refine lv_iload hx hb dX9_counts_175 (lv_at hl 3 rfl) ?_
      refine lv_iadd hx hb dX9_counts_177 ?_
      refine lv_aload_n hx hb dX9_counts_178 rfl (lv_at hl 0 rfl) ?_
      refine gf_X9_190 X hP dX9_counts_179 ?_
      refine lv_bipush (v := 6) hx hb dX9_counts_182 (by decide) ?_
      refine lv_iload_n hx hb dX9_counts_184 rfl (lv_at hl 2 rfl) ?_
      refine lv_imul hx hb dX9_counts_185 ?_
      refine lv_iload hx hb dX9_counts_186 (lv_at hl 3 rfl) ?_
      refine lv_iadd hx hb dX9_counts_188 ?_
      obtain ⟨g_4, h⟩ := gd_el h
      refine r_iald X hP kq_178 g_4 dX9_counts_189 ?_
      obtain ⟨g_5, h⟩ := gd_el h
      obtain ⟨M_2, e_2, h⟩ := lt_el h
      refine r_iast X hP hS kq_154 g_5 e_2 dX9_counts_190 (fun H locs hP hS => ?_)
      obtain ⟨v_1, e_3, h⟩ := lt_el h
      refine lv_iinc (v := v_1) (lv' := [(4, .int v_1), (0, .ref (B + 119)), (1, .int v1), (2, .int v2)]) hx hb dX9_counts_191 hl (k := 3) rfl (by rw [e_3]; rfl) (by decide) rfl (fun ls hl => ?_)
      refine lv_goto (tgt := 132) hx hb dX9_counts_194 (by decide) ?_
      exact ih _ _ _ _ _ _ _ hP hS (lv_sub hl [1, 2, 3, 0] rfl) h
def f_X9_counts_128 (M : Mem) (v1 : Int32) (v2 : Int32) (s0 : Int32) (s1 : Int32) : Option (Mem) :=
  gd (inR s1 20) <| lt (sI M 152 s1.toNatClampNeg s0) fun M_1 => f_X9_counts_132 FU M_1 v1 v2 0
set_option maxRecDepth 100000 in
set_option maxHeartbeats 4000000 in
theorem w_X9_counts_128 (X : Cx p s m args meth c cX9_counts RX9 5 none G cy) {out : Mem} {M : Mem} {v1 : Int32} {v2 : Int32} {s0 : Int32} {s1 : Int32} (hP : Pic G B cy nT M H) (hS : va_S (FB B) s.heap H locs) (hl : lv_has ls 5 [(0, .ref (B + 119)), (1, .int v1), (2, .int v2)]) (h : f_X9_counts_128 M v1 v2 s0 s1 = some out) : W p l e rmX9_counts s m args below meth c H locs 0 0 (MQ below (Qv G B cy nT out) args s 0 0 (FB B)) (F0 m 128 ls [.int s0, .int s1, .ref (B + 152)]) := by
  obtain ⟨hx, hb, hr, hml, hown, hts, hKn, hlk⟩ := id X
  unfold f_X9_counts_128 at h
  obtain ⟨g_1, h⟩ := gd_el h
  obtain ⟨M_1, e_1, h⟩ := lt_el h
  refine r_iast X hP hS kq_152 g_1 e_1 dX9_counts_128 (fun H locs hP hS => ?_)
  refine lv_iconst (v := 0) hx hb dX9_counts_129 (by decide) ?_
  refine lv_istore (lv' := [(4, .int 0), (0, .ref (B + 119)), (1, .int v1), (2, .int v2)]) hx hb dX9_counts_130 hl (by decide) rfl (fun ls hl => ?_)
  exact w_X9_counts_132 X FU _ _ _ _ _ _ _ hP hS (lv_sub hl [1, 2, 3, 0] rfl) h
def f_X9_counts_103 (M : Mem) (v1 : Int32) (v2 : Int32) (s0 : Int32) (s1 : Int32) : Option (Mem) :=
  gd (inR s1 20) <| lt (sI M 150 s1.toNatClampNeg s0) fun M_1 => gd (inR v2 4) <| if (gI M_1 159 v2.toNatClampNeg) = 0 then (f_X9_counts_128 M_1 v1 v2 0 v1) else (gd (inR v2 4) <| f_X9_counts_128 M_1 v1 v2 (gI M_1 176 v2.toNatClampNeg) v1)
set_option maxRecDepth 100000 in
set_option maxHeartbeats 4000000 in
theorem w_X9_counts_103 (X : Cx p s m args meth c cX9_counts RX9 5 none G cy) {out : Mem} {M : Mem} {v1 : Int32} {v2 : Int32} {s0 : Int32} {s1 : Int32} (hP : Pic G B cy nT M H) (hS : va_S (FB B) s.heap H locs) (hl : lv_has ls 5 [(0, .ref (B + 119)), (1, .int v1), (2, .int v2)]) (h : f_X9_counts_103 M v1 v2 s0 s1 = some out) : W p l e rmX9_counts s m args below meth c H locs 0 0 (MQ below (Qv G B cy nT out) args s 0 0 (FB B)) (F0 m 103 ls [.int s0, .int s1, .ref (B + 150)]) := by
  obtain ⟨hx, hb, hr, hml, hown, hts, hKn, hlk⟩ := id X
  unfold f_X9_counts_103 at h
  obtain ⟨g_1, h⟩ := gd_el h
  obtain ⟨M_1, e_1, h⟩ := lt_el h
  refine r_iast X hP hS kq_150 g_1 e_1 dX9_counts_103 (fun H locs hP hS => ?_)
  refine lv_aload_n hx hb dX9_counts_104 rfl (lv_at hl 0 rfl) ?_
  refine gf_X9_108 X hP dX9_counts_105 ?_
  refine lv_iload_n hx hb dX9_counts_108 rfl (lv_at hl 1 rfl) ?_
  refine lv_aload_n hx hb dX9_counts_109 rfl (lv_at hl 0 rfl) ?_
  refine gf_X9_133 X hP dX9_counts_110 ?_
  refine lv_iload_n hx hb dX9_counts_113 rfl (lv_at hl 2 rfl) ?_
  obtain ⟨g_2, h⟩ := gd_el h
  refine r_iald X hP kq_159 g_2 dX9_counts_114 ?_
  refine lv_if_ne (tgt := 122) hx hb dX9_counts_115 (by decide) (fun hc => ?_) (fun hc => ?_)
  · replace h := if_eln h hc
    refine lv_aload_n hx hb dX9_counts_122 rfl (lv_at hl 0 rfl) ?_
    refine gf_X9_184 X hP dX9_counts_123 ?_
    refine lv_iload_n hx hb dX9_counts_126 rfl (lv_at hl 2 rfl) ?_
    obtain ⟨g_3, h⟩ := gd_el h
    refine r_iald X hP kq_176 g_3 dX9_counts_127 ?_
    exact w_X9_counts_128 X hP hS (lv_sub hl [0, 1, 2] rfl) h
  · replace h := if_elp h hc
    refine lv_iconst (v := 0) hx hb dX9_counts_118 (by decide) ?_
    refine lv_goto (tgt := 128) hx hb dX9_counts_119 (by decide) ?_
    exact w_X9_counts_128 X hP hS (lv_sub hl [0, 1, 2] rfl) h
def f_X9_counts_76 (K24 : Mem → Int32 → Int32 → Int32 → Int32 → Option (Mem)) (M : Mem) (v1 : Int32) (v2 : Int32) (v4 : Int32) (s0 : Int32) (s1 : Int32) : Option (Mem) :=
  lt (s1 + s0) fun v_1 => lt (v4 + 1) fun v_2 => K24 M v1 v2 v_1 v_2
set_option maxRecDepth 100000 in
set_option maxHeartbeats 4000000 in
theorem w_X9_counts_76 (X : Cx p s m args meth c cX9_counts RX9 5 none G cy) {out : Mem} {K24 : Mem → Int32 → Int32 → Int32 → Int32 → Option (Mem)} (hK24 : ∀ (H : Heap) (locs : List Loc) (ls : Array Slot) (M : Mem) (v1 : Int32) (v2 : Int32) (v3 : Int32) (v4 : Int32), Pic G B cy nT M H → va_S (FB B) s.heap H locs → lv_has ls 5 [(0, .ref (B + 119)), (1, .int v1), (2, .int v2), (3, .int v3), (4, .int v4)] → K24 M v1 v2 v3 v4 = some out → W p l e rmX9_counts s m args below meth c H locs 0 0 (MQ below (Qv G B cy nT out) args s 0 0 (FB B)) (F0 m 24 ls [])) {M : Mem} {v1 : Int32} {v2 : Int32} {v4 : Int32} {s0 : Int32} {s1 : Int32} (hP : Pic G B cy nT M H) (hS : va_S (FB B) s.heap H locs) (hl : lv_has ls 5 [(0, .ref (B + 119)), (1, .int v1), (2, .int v2), (4, .int v4)]) (h : f_X9_counts_76 K24 M v1 v2 v4 s0 s1 = some out) : W p l e rmX9_counts s m args below meth c H locs 0 0 (MQ below (Qv G B cy nT out) args s 0 0 (FB B)) (F0 m 76 ls [.int s0, .int s1]) := by
  obtain ⟨hx, hb, hr, hml, hown, hts, hKn, hlk⟩ := id X
  unfold f_X9_counts_76 at h
  refine lv_iadd hx hb dX9_counts_76 ?_
  obtain ⟨v_1, e_1, h⟩ := lt_el h
  refine r_topi e_1 ?_
  refine lv_istore_n (lv' := [(3, .int v_1), (0, .ref (B + 119)), (1, .int v1), (2, .int v2), (4, .int v4)]) hx hb dX9_counts_77 rfl hl (by decide) rfl (fun ls hl => ?_)
  obtain ⟨v_2, e_2, h⟩ := lt_el h
  refine lv_iinc (v := v_2) (lv' := [(4, .int v_2), (3, .int v_1), (0, .ref (B + 119)), (1, .int v1), (2, .int v2)]) hx hb dX9_counts_78 hl (k := 4) rfl (by rw [e_2]; rfl) (by decide) rfl (fun ls hl => ?_)
  refine lv_goto (tgt := 24) hx hb dX9_counts_81 (by decide) ?_
  exact hK24 _ _ _ _ _ _ _ _ hP hS (lv_sub hl [2, 3, 4, 1, 0] rfl) h
def f_X9_counts_24 : Nat → Mem → Int32 → Int32 → Int32 → Int32 → Option (Mem)
  | 0, _, _, _, _, _ => none
  | n + 1, M, v1, v2, v3, v4 => if 40 ≤ v4 then (gd (inR v2 4) <| if (gI M 159 v2.toNatClampNeg) = 0 then (f_X9_counts_103 M v1 v2 v3 v1) else (f_X9_counts_103 M v1 v2 0 v1)) else (gd (inR ((40 * v2) + v4) 160) <| gd (inR ((40 * v1) + v4) 800) <| lt (sB M 151 ((40 * v1) + v4).toNatClampNeg (iB (bI (gB M 168 ((40 * v2) + v4).toNatClampNeg)))) fun M_1 => gd (inR ((40 * v2) + v4) 160) <| if (bI (gB M_1 163 ((40 * v2) + v4).toNatClampNeg)) = 0 then (f_X9_counts_76 (f_X9_counts_24 n) M_1 v1 v2 v4 0 v3) else (f_X9_counts_76 (f_X9_counts_24 n) M_1 v1 v2 v4 1 v3))
set_option maxRecDepth 100000 in
set_option maxHeartbeats 4000000 in
theorem w_X9_counts_24 (X : Cx p s m args meth c cX9_counts RX9 5 none G cy) {out : Mem} : ∀ n : Nat, ∀ (H : Heap) (locs : List Loc) (ls : Array Slot) (M : Mem) (v1 : Int32) (v2 : Int32) (v3 : Int32) (v4 : Int32), Pic G B cy nT M H → va_S (FB B) s.heap H locs → lv_has ls 5 [(0, .ref (B + 119)), (1, .int v1), (2, .int v2), (3, .int v3), (4, .int v4)] → f_X9_counts_24 n M v1 v2 v3 v4 = some out → W p l e rmX9_counts s m args below meth c H locs 0 0 (MQ below (Qv G B cy nT out) args s 0 0 (FB B)) (F0 m 24 ls []) := by
  obtain ⟨hx, hb, hr, hml, hown, hts, hKn, hlk⟩ := id X
  intro n
  induction n with
  | zero =>
    intro H locs ls M v1 v2 v3 v4 hP hS hl h
    cases h
  | succ n ih =>
    intro H locs ls M v1 v2 v3 v4 hP hS hl h
    rw [f_X9_counts_24] at h
    refine lv_iload hx hb dX9_counts_24 (lv_at hl 4 rfl) ?_
    refine lv_bipush (v := 40) hx hb dX9_counts_26 (by decide) ?_
    refine lv_icmp_ge (tgt := 84) hx hb dX9_counts_28 (by decide) (fun hc => ?_) (fun hc => ?_)
    · replace h := if_elp h hc
      refine lv_aload_n hx hb dX9_counts_84 rfl (lv_at hl 0 rfl) ?_
      refine gf_X9_102 X hP dX9_counts_85 ?_
      refine lv_iload_n hx hb dX9_counts_88 rfl (lv_at hl 1 rfl) ?_
      refine lv_aload_n hx hb dX9_counts_89 rfl (lv_at hl 0 rfl) ?_
      refine gf_X9_133 X hP dX9_counts_90 ?_
      refine lv_iload_n hx hb dX9_counts_93 rfl (lv_at hl 2 rfl) ?_
      obtain ⟨g_1, h⟩ := gd_el h
      refine r_iald X hP kq_159 g_1 dX9_counts_94 ?_
      refine lv_if_ne (tgt := 102) hx hb dX9_counts_95 (by decide) (fun hc => ?_) (fun hc => ?_)
      · replace h := if_eln h hc
        refine lv_iconst (v := 0) hx hb dX9_counts_102 (by decide) ?_
        exact w_X9_counts_103 X hP hS (lv_sub hl [0, 1, 2] rfl) h
      · replace h := if_elp h hc
        refine lv_iload_n hx hb dX9_counts_98 rfl (lv_at hl 3 rfl) ?_
        refine lv_goto (tgt := 103) hx hb dX9_counts_99 (by decide) ?_
        exact w_X9_counts_103 X hP hS (lv_sub hl [0, 1, 2] rfl) h
    · replace h := if_eln h hc
      refine lv_aload_n hx hb dX9_counts_31 rfl (lv_at hl 0 rfl) ?_
      refine gf_X9_105 X hP dX9_counts_32 ?_
      refine lv_bipush (v := 40) hx hb dX9_counts_35 (by decide) ?_
      refine lv_iload_n hx hb dX9_counts_37 rfl (lv_at hl 1 rfl) ?_
      refine lv_imul hx hb dX9_counts_38 ?_
      refine lv_iload hx hb dX9_counts_39 (lv_at hl 4 rfl) ?_
      refine lv_iadd hx hb dX9_counts_41 ?_
      refine lv_aload_n hx hb dX9_counts_42 rfl (lv_at hl 0 rfl) ?_
      refine gf_X9_160 X hP dX9_counts_43 ?_
      refine lv_bipush (v := 40) hx hb dX9_counts_46 (by decide) ?_
      refine lv_iload_n hx hb dX9_counts_48 rfl (lv_at hl 2 rfl) ?_
      refine lv_imul hx hb dX9_counts_49 ?_
      refine lv_iload hx hb dX9_counts_50 (lv_at hl 4 rfl) ?_
      refine lv_iadd hx hb dX9_counts_52 ?_
      obtain ⟨g_2, h⟩ := gd_el h
      refine r_zald X hP kq_168 g_2 dX9_counts_53 ?_
      obtain ⟨g_3, h⟩ := gd_el h
      obtain ⟨M_1, e_1, h⟩ := lt_el h
      refine r_zast X hP hS kq_151 g_3 e_1 dX9_counts_54 (fun H locs hP hS => ?_)
      refine lv_iload_n hx hb dX9_counts_55 rfl (lv_at hl 3 rfl) ?_
      refine lv_aload_n hx hb dX9_counts_56 rfl (lv_at hl 0 rfl) ?_
      refine gf_X9_145 X hP dX9_counts_57 ?_
      refine lv_bipush (v := 40) hx hb dX9_counts_60 (by decide) ?_
      refine lv_iload_n hx hb dX9_counts_62 rfl (lv_at hl 2 rfl) ?_
      refine lv_imul hx hb dX9_counts_63 ?_
      refine lv_iload hx hb dX9_counts_64 (lv_at hl 4 rfl) ?_
      refine lv_iadd hx hb dX9_counts_66 ?_
      obtain ⟨g_4, h⟩ := gd_el h
      refine r_zald X hP kq_163 g_4 dX9_counts_67 ?_
      refine lv_if_eq (tgt := 75) hx hb dX9_counts_68 (by decide) (fun hc => ?_) (fun hc => ?_)
      · replace h := if_elp h hc
        refine lv_iconst (v := 0) hx hb dX9_counts_75 (by decide) ?_
        exact w_X9_counts_76 X ih hP hS (lv_sub hl [0, 1, 2, 4] rfl) h
      · replace h := if_eln h hc
        refine lv_iconst (v := 1) hx hb dX9_counts_71 (by decide) ?_
        refine lv_goto (tgt := 76) hx hb dX9_counts_72 (by decide) ?_
        exact w_X9_counts_76 X ih hP hS (lv_sub hl [0, 1, 2, 4] rfl) h
def f_X9_counts (M : Mem) (a1 : Int32) (a2 : Int32) : Option (Mem) :=
  gd (inR a1 20) <| lt (sB M 148 a1.toNatClampNeg (iB 1)) fun M_1 => gd (inR a2 4) <| gd (inR a1 20) <| lt (sI M_1 149 a1.toNatClampNeg (gI M_1 162 a2.toNatClampNeg)) fun M_2 => f_X9_counts_24 FU M_2 a1 a2 0 0
set_option maxRecDepth 100000 in
set_option maxHeartbeats 4000000 in
theorem c_X9_counts {l : Launch} {G : va_G} {cy : Nat → ClassId} {B nT : Nat} {M : Mem} {a1 : Int32} {a2 : Int32} {out : Mem} (h : f_X9_counts M a1 a2 = some out) : Met l yX9_counts (wsU yX9_counts cX9_counts 5 none) rmX9_counts (va_Pc [.ref (B + 119), .int a1, .int a2] (PU G B cy nT M)) (Qv G B cy nT out) 0 0 (FB B) := by
  refine r_met (by decide +kernel) RX9 rfl (Nat.le_of_ble_eq_true rfl) ?_
  intro p e s m args below meth c ls X hP hl
  have hl : lv_has ls 5 [(0, .ref (B + 119)), (1, .int a1), (2, .int a2)] := hl
  have hS : va_S (FB B) s.heap s.heap [] := va_S.rf
  obtain ⟨hx, hb, hr, hml, hown, hts, hKn, hlk⟩ := id X
  unfold f_X9_counts at h
  refine lv_aload_n hx hb dX9_counts_0 rfl (lv_at hl 0 rfl) ?_
  refine gf_X9_95 X hP dX9_counts_1 ?_
  refine lv_iload_n hx hb dX9_counts_4 rfl (lv_at hl 1 rfl) ?_
  refine lv_iconst (v := 1) hx hb dX9_counts_5 (by decide) ?_
  obtain ⟨g_1, h⟩ := gd_el h
  obtain ⟨M_1, e_1, h⟩ := lt_el h
  refine r_zast X hP hS kq_148 g_1 e_1 dX9_counts_6 (fun H locs hP hS => ?_)
  refine lv_aload_n hx hb dX9_counts_7 rfl (lv_at hl 0 rfl) ?_
  refine gf_X9_99 X hP dX9_counts_8 ?_
  refine lv_iload_n hx hb dX9_counts_11 rfl (lv_at hl 1 rfl) ?_
  refine lv_aload_n hx hb dX9_counts_12 rfl (lv_at hl 0 rfl) ?_
  refine gf_X9_142 X hP dX9_counts_13 ?_
  refine lv_iload_n hx hb dX9_counts_16 rfl (lv_at hl 2 rfl) ?_
  obtain ⟨g_2, h⟩ := gd_el h
  refine r_iald X hP kq_162 g_2 dX9_counts_17 ?_
  obtain ⟨g_3, h⟩ := gd_el h
  obtain ⟨M_2, e_2, h⟩ := lt_el h
  refine r_iast X hP hS kq_149 g_3 e_2 dX9_counts_18 (fun H locs hP hS => ?_)
  refine lv_iconst (v := 0) hx hb dX9_counts_19 (by decide) ?_
  refine lv_istore_n (lv' := [(3, .int 0), (0, .ref (B + 119)), (1, .int a1), (2, .int a2)]) hx hb dX9_counts_20 rfl hl (by decide) rfl (fun ls hl => ?_)
  refine lv_iconst (v := 0) hx hb dX9_counts_21 (by decide) ?_
  refine lv_istore (lv' := [(4, .int 0), (3, .int 0), (0, .ref (B + 119)), (1, .int a1), (2, .int a2)]) hx hb dX9_counts_22 hl (by decide) rfl (fun ls hl => ?_)
  exact w_X9_counts_24 X FU _ _ _ _ _ _ _ _ hP hS (lv_sub hl [2, 3, 4, 1, 0] rfl) h
end METHS

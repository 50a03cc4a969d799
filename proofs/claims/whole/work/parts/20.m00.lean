section METHS
variable {p : Program} {l : Launch} {e : Env} {s : State} {m : MethodId} {args : Array Value} {below : List Frame} {meth : Method} {c : Code} {H : Heap} {locs : List Loc} {G : va_G} {cy : Nat → ClassId} {B nT : Nat} {ls : Array Slot}
abbrev rmX1_put : Room := { frames := 0, cells := 0, slots := 0, locals := 0 }
def f_X1_put (q : Nat) (M : Mem) (a1 : Int32) (a2 : Int32) (a3 : Int64) (a5 : Int32) (a6 : Int32) : Option (Mem) :=
  gd (inR a1 40) <| lt (sI M (q + 1) a1.toNatClampNeg a2) fun M_1 => gd (inR a1 40) <| lt (sL M_1 (q + 2) a1.toNatClampNeg a3) fun M_2 => gd (inR a1 40) <| lt (sI M_2 (q + 3) a1.toNatClampNeg a5) fun M_3 => gd (inR a1 40) <| lt (sI M_3 (q + 4) a1.toNatClampNeg a6) fun M_4 => some M_4
set_option maxRecDepth 100000 in
set_option maxHeartbeats 4000000 in
theorem c_X1_put {l : Launch} {G : va_G} {cy : Nat → ClassId} {B nT : Nat} {q : Nat} (hq : isC q) {M : Mem} {a1 : Int32} {a2 : Int32} {a3 : Int64} {a5 : Int32} {a6 : Int32} {out : Mem} (h : f_X1_put q M a1 a2 a3 a5 a6 = some out) : Met l yX1_put (wsU yX1_put cX1_put 7 none) rmX1_put (va_Pc [.ref (B + q), .int a1, .int a2, .long a3, .int a5, .int a6] (PU G B cy nT M)) (Qv G B cy nT out) 0 0 (FB B) := by
  refine r_met (by decide +kernel) RX1 rfl (Nat.le_of_ble_eq_true rfl) ?_
  intro p e s m args below meth c ls X hP hl
  have hl : lv_has ls 7 [(0, .ref (B + q)), (1, .int a1), (2, .int a2), (3, .long a3), (5, .int a5), (6, .int a6)] := hl
  have hS : va_S (FB B) s.heap s.heap [] := va_S.rf
  obtain ⟨hx, hb, hr, hml, hown, hts, hKn, hlk⟩ := id X
  unfold f_X1_put at h
  refine lv_aload_n hx hb dX1_put_0 rfl (lv_at hl 0 rfl) ?_
  refine gf_X1_9 X hP (kC_0 hq) dX1_put_1 ?_
  refine lv_iload_n hx hb dX1_put_4 rfl (lv_at hl 1 rfl) ?_
  refine lv_iload_n hx hb dX1_put_5 rfl (lv_at hl 2 rfl) ?_
  obtain ⟨g_1, h⟩ := gd_el h
  obtain ⟨M_1, e_1, h⟩ := lt_el h
  refine r_iast X hP hS (kC_1 hq) g_1 e_1 dX1_put_6 (fun H locs hP hS => ?_)
  refine lv_aload_n hx hb dX1_put_7 rfl (lv_at hl 0 rfl) ?_
  refine gf_X1_15 X hP (kC_0 hq) dX1_put_8 ?_
  refine lv_iload_n hx hb dX1_put_11 rfl (lv_at hl 1 rfl) ?_
  refine lv_lload_n hx hb dX1_put_12 rfl (lv_at hl 3 rfl) ?_
  obtain ⟨g_2, h⟩ := gd_el h
  obtain ⟨M_2, e_2, h⟩ := lt_el h
  refine r_last X hP hS (kC_2 hq) g_2 e_2 dX1_put_13 (fun H locs hP hS => ?_)
  refine lv_aload_n hx hb dX1_put_14 rfl (lv_at hl 0 rfl) ?_
  refine gf_X1_19 X hP (kC_0 hq) dX1_put_15 ?_
  refine lv_iload_n hx hb dX1_put_18 rfl (lv_at hl 1 rfl) ?_
  refine lv_iload hx hb dX1_put_19 (lv_at hl 4 rfl) ?_
  obtain ⟨g_3, h⟩ := gd_el h
  obtain ⟨M_3, e_3, h⟩ := lt_el h
  refine r_iast X hP hS (kC_3 hq) g_3 e_3 dX1_put_21 (fun H locs hP hS => ?_)
  refine lv_aload_n hx hb dX1_put_22 rfl (lv_at hl 0 rfl) ?_
  refine gf_X1_22 X hP (kC_0 hq) dX1_put_23 ?_
  refine lv_iload_n hx hb dX1_put_26 rfl (lv_at hl 1 rfl) ?_
  refine lv_iload hx hb dX1_put_27 (lv_at hl 5 rfl) ?_
  obtain ⟨g_4, h⟩ := gd_el h
  obtain ⟨M_4, e_4, h⟩ := lt_el h
  refine r_iast X hP hS (kC_4 hq) g_4 e_4 dX1_put_29 (fun H locs hP hS => ?_)
  exact r_vret X hP hS (Option.some.inj h) dX1_put_30
abbrev rmX8_isCell : Room := { frames := 0, cells := 0, slots := 0, locals := 0 }
def f_X8_isCell (a0 : Int64) : Option (Bool) :=
  if a0 < 0 then (some false) else (if 40 ≤ a0 then (some false) else (some true))
set_option maxRecDepth 100000 in
set_option maxHeartbeats 4000000 in
theorem c_X8_isCell {l : Launch} {G : va_G} {cy : Nat → ClassId} {B nT : Nat} {M : Mem} {a0 : Int64} {out : Bool} (h : f_X8_isCell a0 = some out) : Met l yX8_isCell (wsU yX8_isCell cX8_isCell 2 (some .boolean)) rmX8_isCell (va_Pc [.long a0] (PU G B cy nT M)) (Qi G B cy nT (bI out) M) 0 0 (FB B) := by
  refine r_met (by decide +kernel) RX8 rfl (Nat.le_of_ble_eq_true rfl) ?_
  intro p e s m args below meth c ls X hP hl
  have hl : lv_has ls 2 [(0, .long a0)] := hl
  have hS : va_S (FB B) s.heap s.heap [] := va_S.rf
  obtain ⟨hx, hb, hr, hml, hown, hts, hKn, hlk⟩ := id X
  unfold f_X8_isCell at h
  refine lv_lload_n hx hb dX8_isCell_0 rfl (lv_at hl 0 rfl) ?_
  refine lv_lconst (v := 0) hx hb dX8_isCell_1 rfl ?_
  refine W.lcmp hx hb dX8_isCell_2 ?_
  refine lv_if_lt (tgt := 18) hx hb dX8_isCell_3 (by decide) (fun hc => ?_) (fun hc => ?_)
  · replace h := if_elp h (lc_lt.mp hc)
    refine lv_iconst (v := 0) hx hb dX8_isCell_18 (by decide) ?_
    exact r_zret X hP hS rfl (congrArg bI (Option.some.inj h)) rfl dX8_isCell_19
  · replace h := if_eln h (fun z => hc (lc_lt.mpr z))
    refine lv_lload_n hx hb dX8_isCell_6 rfl (lv_at hl 0 rfl) ?_
    refine lv_ldc2 (v := 40) hx hb hown (hts _ k_189) dX8_isCell_7 ?_
    refine W.lcmp hx hb dX8_isCell_10 ?_
    refine lv_if_ge (tgt := 18) hx hb dX8_isCell_11 (by decide) (fun hc => ?_) (fun hc => ?_)
    · replace h := if_elp h (lc_ge.mp hc)
      refine lv_iconst (v := 0) hx hb dX8_isCell_18 (by decide) ?_
      exact r_zret X hP hS rfl (congrArg bI (Option.some.inj h)) rfl dX8_isCell_19
    · replace h := if_eln h (fun z => hc (lc_ge.mpr z))
      refine lv_iconst (v := 1) hx hb dX8_isCell_14 (by decide) ?_
      refine lv_goto (tgt := 19) hx hb dX8_isCell_15 (by decide) ?_
      exact r_zret X hP hS rfl (congrArg bI (Option.some.inj h)) rfl dX8_isCell_19
abbrev rmX1_gramsOfKind : Room := { frames := 0, cells := 0, slots := 0, locals := 0 }
def f_X1_gramsOfKind_44 (q : Nat) (M : Mem) (K5 : Int32 → Int64 → Int32 → Option (Int64)) (v1 : Int32) (v2 : Int64) (v4 : Int32) : Option (Int64) :=
  lt (v4 + 1) fun v_1 => K5 v1 v2 v_1
set_option maxRecDepth 100000 in
set_option maxHeartbeats 4000000 in
theorem w_X1_gramsOfKind_44 (X : Cx p s m args meth c cX1_gramsOfKind RX1 5 (some .long) G cy) {q : Nat} (hq : isC q) {M : Mem} {out : Int64} {K5 : Int32 → Int64 → Int32 → Option (Int64)} (hK5 : ∀ (H : Heap) (locs : List Loc) (ls : Array Slot) (v1 : Int32) (v2 : Int64) (v4 : Int32), Pic G B cy nT M H → va_S (FB B) s.heap H locs → lv_has ls 5 [(0, .ref (B + q)), (1, .int v1), (2, .long v2), (4, .int v4)] → K5 v1 v2 v4 = some out → W p l e rmX1_gramsOfKind s m args below meth c H locs 0 0 (MQ below (Ql G B cy nT out M) args s 0 0 (FB B)) (F0 m 5 ls [])) {v1 : Int32} {v2 : Int64} {v4 : Int32} (hP : Pic G B cy nT M H) (hS : va_S (FB B) s.heap H locs) (hl : lv_has ls 5 [(0, .ref (B + q)), (1, .int v1), (2, .long v2), (4, .int v4)]) (h : f_X1_gramsOfKind_44 q M K5 v1 v2 v4 = some out) : W p l e rmX1_gramsOfKind s m args below meth c H locs 0 0 (MQ below (Ql G B cy nT out M) args s 0 0 (FB B)) (F0 m 44 ls []) := by
  obtain ⟨hx, hb, hr, hml, hown, hts, hKn, hlk⟩ := id X
  unfold f_X1_gramsOfKind_44 at h
  obtain ⟨v_1, e_1, h⟩ := lt_el h
  refine lv_iinc (v := v_1) (lv' := [(4, .int v_1), (0, .ref (B + q)), (1, .int v1), (2, .long v2)]) hx hb dX1_gramsOfKind_44 hl (k := 3) rfl (by rw [e_1]; rfl) (by decide) rfl (fun ls hl => ?_)
  refine lv_goto (tgt := 5) hx hb dX1_gramsOfKind_47 (by decide) ?_
  exact hK5 _ _ _ _ _ _ hP hS (lv_sub hl [1, 2, 3, 0] rfl) h
def f_X1_gramsOfKind_5 (q : Nat) (M : Mem) : Nat → Int32 → Int64 → Int32 → Option (Int64)
  | 0, _, _, _ => none
  | n + 1, v1, v2, v4 => if 40 ≤ v4 then (some v2) else (gd (inR v4 40) <| if (gI M (q + 1) v4.toNatClampNeg) = 2 then (gd (inR v4 40) <| if (gI M (q + 3) v4.toNatClampNeg) = v1 then (gd (inR v4 40) <| lt (v2 + (gL M (q + 2) v4.toNatClampNeg)) fun v_1 => f_X1_gramsOfKind_44 q M (f_X1_gramsOfKind_5 q M n) v1 v_1 v4) else (f_X1_gramsOfKind_44 q M (f_X1_gramsOfKind_5 q M n) v1 v2 v4)) else (f_X1_gramsOfKind_44 q M (f_X1_gramsOfKind_5 q M n) v1 v2 v4))
set_option maxRecDepth 100000 in
set_option maxHeartbeats 4000000 in
theorem w_X1_gramsOfKind_5 (X : Cx p s m args meth c cX1_gramsOfKind RX1 5 (some .long) G cy) {q : Nat} (hq : isC q) {M : Mem} {out : Int64} : ∀ n : Nat, ∀ (H : Heap) (locs : List Loc) (ls : Array Slot) (v1 : Int32) (v2 : Int64) (v4 : Int32), Pic G B cy nT M H → va_S (FB B) s.heap H locs → lv_has ls 5 [(0, .ref (B + q)), (1, .int v1), (2, .long v2), (4, .int v4)] → f_X1_gramsOfKind_5 q M n v1 v2 v4 = some out → W p l e rmX1_gramsOfKind s m args below meth c H locs 0 0 (MQ below (Ql G B cy nT out M) args s 0 0 (FB B)) (F0 m 5 ls []) := by
  obtain ⟨hx, hb, hr, hml, hown, hts, hKn, hlk⟩ := id X
  intro n
  induction n with
  | zero =>
    intro H locs ls v1 v2 v4 hP hS hl h
    cases h
  | succ n ih =>
    intro H locs ls v1 v2 v4 hP hS hl h
    rw [f_X1_gramsOfKind_5] at h
    refine lv_iload hx hb dX1_gramsOfKind_5 (lv_at hl 3 rfl) ?_
    refine lv_bipush (v := 40) hx hb dX1_gramsOfKind_7 (by decide) ?_
    refine lv_icmp_ge (tgt := 50) hx hb dX1_gramsOfKind_9 (by decide) (fun hc => ?_) (fun hc => ?_)
    · replace h := if_elp h hc
      refine lv_lload_n hx hb dX1_gramsOfKind_50 rfl (lv_at hl 2 rfl) ?_
      exact r_lret X hP hS (Option.some.inj h) rfl dX1_gramsOfKind_51
    · replace h := if_eln h hc
      refine lv_aload_n hx hb dX1_gramsOfKind_12 rfl (lv_at hl 0 rfl) ?_
      refine gf_X1_9 X hP (kC_0 hq) dX1_gramsOfKind_13 ?_
      refine lv_iload hx hb dX1_gramsOfKind_16 (lv_at hl 3 rfl) ?_
      obtain ⟨g_1, h⟩ := gd_el h
      refine r_iald X hP (kC_1 hq) g_1 dX1_gramsOfKind_18 ?_
      refine lv_iconst (v := 2) hx hb dX1_gramsOfKind_19 (by decide) ?_
      refine lv_icmp_ne (tgt := 44) hx hb dX1_gramsOfKind_20 (by decide) (fun hc => ?_) (fun hc => ?_)
      · replace h := if_eln h hc
        exact w_X1_gramsOfKind_44 X hq ih hP hS (lv_sub hl [0, 1, 2, 3] rfl) h
      · replace h := if_elp h hc
        refine lv_aload_n hx hb dX1_gramsOfKind_23 rfl (lv_at hl 0 rfl) ?_
        refine gf_X1_19 X hP (kC_0 hq) dX1_gramsOfKind_24 ?_
        refine lv_iload hx hb dX1_gramsOfKind_27 (lv_at hl 3 rfl) ?_
        obtain ⟨g_2, h⟩ := gd_el h
        refine r_iald X hP (kC_3 hq) g_2 dX1_gramsOfKind_29 ?_
        refine lv_iload_n hx hb dX1_gramsOfKind_30 rfl (lv_at hl 1 rfl) ?_
        refine lv_icmp_ne (tgt := 44) hx hb dX1_gramsOfKind_31 (by decide) (fun hc => ?_) (fun hc => ?_)
        · replace h := if_eln h hc
          exact w_X1_gramsOfKind_44 X hq ih hP hS (lv_sub hl [0, 1, 2, 3] rfl) h
        · replace h := if_elp h hc
          refine lv_lload_n hx hb dX1_gramsOfKind_34 rfl (lv_at hl 2 rfl) ?_
          refine lv_aload_n hx hb dX1_gramsOfKind_35 rfl (lv_at hl 0 rfl) ?_
          refine gf_X1_15 X hP (kC_0 hq) dX1_gramsOfKind_36 ?_
          refine lv_iload hx hb dX1_gramsOfKind_39 (lv_at hl 3 rfl) ?_
          obtain ⟨g_3, h⟩ := gd_el h
          refine r_lald X hP (kC_2 hq) g_3 dX1_gramsOfKind_41 ?_
          refine lv_ladd hx hb dX1_gramsOfKind_42 ?_
          obtain ⟨v_1, e_1, h⟩ := lt_el h
          refine r_topl e_1 ?_
          refine lv_lstore_n (lv' := [(2, .long v_1), (0, .ref (B + q)), (1, .int v1), (4, .int v4)]) hx hb dX1_gramsOfKind_43 rfl hl (by decide) rfl (fun ls hl => ?_)
          exact w_X1_gramsOfKind_44 X hq ih hP hS (lv_sub hl [1, 2, 0, 3] rfl) h
def f_X1_gramsOfKind (q : Nat) (M : Mem) (a1 : Int32) : Option (Int64) :=
  f_X1_gramsOfKind_5 q M FU a1 0 0
set_option maxRecDepth 100000 in
set_option maxHeartbeats 4000000 in
theorem c_X1_gramsOfKind {l : Launch} {G : va_G} {cy : Nat → ClassId} {B nT : Nat} {q : Nat} (hq : isC q) {M : Mem} {a1 : Int32} {out : Int64} (h : f_X1_gramsOfKind q M a1 = some out) : Met l yX1_gramsOfKind (wsU yX1_gramsOfKind cX1_gramsOfKind 5 (some .long)) rmX1_gramsOfKind (va_Pc [.ref (B + q), .int a1] (PU G B cy nT M)) (Ql G B cy nT out M) 0 0 (FB B) := by
  refine r_met (by decide +kernel) RX1 rfl (Nat.le_of_ble_eq_true rfl) ?_
  intro p e s m args below meth c ls X hP hl
  have hl : lv_has ls 5 [(0, .ref (B + q)), (1, .int a1)] := hl
  have hS : va_S (FB B) s.heap s.heap [] := va_S.rf
  obtain ⟨hx, hb, hr, hml, hown, hts, hKn, hlk⟩ := id X
  unfold f_X1_gramsOfKind at h
  refine lv_lconst (v := 0) hx hb dX1_gramsOfKind_0 rfl ?_
  refine lv_lstore_n (lv' := [(2, .long 0), (0, .ref (B + q)), (1, .int a1)]) hx hb dX1_gramsOfKind_1 rfl hl (by decide) rfl (fun ls hl => ?_)
  refine lv_iconst (v := 0) hx hb dX1_gramsOfKind_2 (by decide) ?_
  refine lv_istore (lv' := [(4, .int 0), (2, .long 0), (0, .ref (B + q)), (1, .int a1)]) hx hb dX1_gramsOfKind_3 hl (by decide) rfl (fun ls hl => ?_)
  exact w_X1_gramsOfKind_5 X hq FU _ _ _ _ _ _ hP hS (lv_sub hl [2, 3, 1, 0] rfl) h
abbrev rmX9_look : Room := { frames := 0, cells := 0, slots := 0, locals := 0 }
def f_X9_look (M : Mem) (a1 : Int32) : Option (Mem) :=
  lt ((40 * (gI M 119 46)) + a1) fun v_1 => gd (inR v_1 160) <| if (bI (gB M 163 v_1.toNatClampNeg)) = 0 then (gd (inR v_1 160) <| lt (sB M 168 v_1.toNatClampNeg (iB 1)) fun M_1 => gd (inR a1 40) <| gd (inR v_1 160) <| lt (sI M_1 169 v_1.toNatClampNeg (gI M_1 124 a1.toNatClampNeg)) fun M_2 => some M_2) else (some M)
set_option maxRecDepth 100000 in
set_option maxHeartbeats 4000000 in
theorem c_X9_look {l : Launch} {G : va_G} {cy : Nat → ClassId} {B nT : Nat} {M : Mem} {a1 : Int32} {out : Mem} (h : f_X9_look M a1 = some out) : Met l yX9_look (wsU yX9_look cX9_look 3 none) rmX9_look (va_Pc [.ref (B + 119), .int a1] (PU G B cy nT M)) (Qv G B cy nT out) 0 0 (FB B) := by
  refine r_met (by decide +kernel) RX9 rfl (Nat.le_of_ble_eq_true rfl) ?_
  intro p e s m args below meth c ls X hP hl
  have hl : lv_has ls 3 [(0, .ref (B + 119)), (1, .int a1)] := hl
  have hS : va_S (FB B) s.heap s.heap [] := va_S.rf
  obtain ⟨hx, hb, hr, hml, hown, hts, hKn, hlk⟩ := id X
  unfold f_X9_look at h
  refine lv_bipush (v := 40) hx hb dX9_look_0 (by decide) ?_
  refine lv_aload_n hx hb dX9_look_2 rfl (lv_at hl 0 rfl) ?_
  refine gf_X9_267 X hP dX9_look_3 ?_
  refine lv_imul hx hb dX9_look_6 ?_
  refine lv_iload_n hx hb dX9_look_7 rfl (lv_at hl 1 rfl) ?_
  refine lv_iadd hx hb dX9_look_8 ?_
  obtain ⟨v_1, e_1, h⟩ := lt_el h
  refine r_topi e_1 ?_
  refine lv_istore_n (lv' := [(2, .int v_1), (0, .ref (B + 119)), (1, .int a1)]) hx hb dX9_look_9 rfl hl (by decide) rfl (fun ls hl => ?_)
  refine lv_aload_n hx hb dX9_look_10 rfl (lv_at hl 1 rfl) ?_
  refine gf_X9_145 X hP dX9_look_11 ?_
  refine lv_iload_n hx hb dX9_look_14 rfl (lv_at hl 0 rfl) ?_
  obtain ⟨g_1, h⟩ := gd_el h
  refine r_zald X hP kq_163 g_1 dX9_look_15 ?_
  refine lv_if_ne (tgt := 38) hx hb dX9_look_16 (by decide) (fun hc => ?_) (fun hc => ?_)
  · replace h := if_eln h hc
    exact r_vret X hP hS (Option.some.inj h) dX9_look_38
  · replace h := if_elp h hc
    refine lv_aload_n hx hb dX9_look_19 rfl (lv_at hl 1 rfl) ?_
    refine gf_X9_160 X hP dX9_look_20 ?_
    refine lv_iload_n hx hb dX9_look_23 rfl (lv_at hl 0 rfl) ?_
    refine lv_iconst (v := 1) hx hb dX9_look_24 (by decide) ?_
    obtain ⟨g_2, h⟩ := gd_el h
    obtain ⟨M_1, e_2, h⟩ := lt_el h
    refine r_zast X hP hS kq_168 g_2 e_2 dX9_look_25 (fun H locs hP hS => ?_)
    refine lv_aload_n hx hb dX9_look_26 rfl (lv_at hl 1 rfl) ?_
    refine gf_X9_163 X hP dX9_look_27 ?_
    refine lv_iload_n hx hb dX9_look_30 rfl (lv_at hl 0 rfl) ?_
    refine lv_aload_n hx hb dX9_look_31 rfl (lv_at hl 1 rfl) ?_
    refine gf_X9_23 X hP dX9_look_32 ?_
    refine lv_iload_n hx hb dX9_look_35 rfl (lv_at hl 2 rfl) ?_
    obtain ⟨g_3, h⟩ := gd_el h
    refine r_iald X hP kq_124 g_3 dX9_look_36 ?_
    obtain ⟨g_4, h⟩ := gd_el h
    obtain ⟨M_2, e_3, h⟩ := lt_el h
    refine r_iast X hP hS kq_169 g_4 e_3 dX9_look_37 (fun H locs hP hS => ?_)
    exact r_vret X hP hS (Option.some.inj h) dX9_look_38
end METHS

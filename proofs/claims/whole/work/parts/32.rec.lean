section METHS
variable {p : Program} {l : Launch} {e : Env} {s : State} {m : MethodId} {args : Array Value} {below : List Frame} {meth : Method} {c : Code} {H : Heap} {locs : List Loc} {G : va_G} {cy : Nat → ClassId} {B nT : Nat} {ls : Array Slot}
def rmT (k : Nat) : Room := { frames := 2 * k + 6, cells := 0, slots := 0, locals := 60 * k + 300 }
def rmP (k : Nat) : Room := { frames := 2 * k + 7, cells := 0, slots := 0, locals := 60 * k + 330 }
def f_X0_doPart (D : Mem → Int32 → Int32 → Option (Int32 × Mem)) (q : Nat) (M : Mem) (a1 : Int32) (a2 : Int32) (a3 : Int32) (a4 : Int32) : Option (Int32 × Mem) :=
  if a1 = 16 then (Option.bind (D M a2 (a4 + 1)) fun r_6 => some (r_6.1, r_6.2)) else (gd (inR a4 6) <| Option.bind (f_X0_mark q (29 + 6 * a4.toNatClampNeg) M) fun r_1 => Option.bind (D r_1 a2 (a4 + 1)) fun r_2 => Option.bind (f_X0_isUndone a1 r_2.1) fun r_3 => if (bI r_3) = 0 then (some (r_2.1, r_2.2)) else (Option.bind (f_X0_undo q (29 + 6 * a4.toNatClampNeg) r_2.2) fun r_4 => if a1 = 17 then (lt (sL r_4 q 6 (Int32.toInt64 ((-1) - r_2.1))) fun M_2 => some (0, M_2)) else (lt (sL r_4 q 6 (gL r_4 (29 + 6 * a4.toNatClampNeg) 1)) fun M_1 => Option.bind (D M_1 a3 (a4 + 1)) fun r_5 => some (r_5.1, r_5.2))))
set_option maxRecDepth 100000 in
set_option maxHeartbeats 4000000 in
theorem c_X0_doPart {l : Launch} {G : va_G} {cy : Nat → ClassId} {B nT : Nat} {q : Nat} (hq : isA q) {k : Nat} {D : Mem → Int32 → Int32 → Option (Int32 × Mem)} (hD : ∀ (M : Mem) (a1 a2 : Int32) (out : Int32 × Mem), D M a1 a2 = some out → Met l yX0_doTrade (wsU yX0_doTrade cX0_doTrade 7 (some .int)) (rmT k) (va_Pc [.ref (B + q), .int a1, .int a2] (PU G B cy nT M)) (Qi G B cy nT out.1 out.2) 0 0 (FB B)) {M : Mem} {a1 : Int32} {a2 : Int32} {a3 : Int32} {a4 : Int32} {out : Int32 × Mem} (h : f_X0_doPart D q M a1 a2 a3 a4 = some out) : Met l yX0_doPart (wsU yX0_doPart cX0_doPart 7 (some .int)) (rmP k) (va_Pc [.ref (B + q), .int a1, .int a2, .int a3, .int a4] (PU G B cy nT M)) (Qi G B cy nT out.1 out.2) 0 0 (FB B) := by
  refine r_met (by decide +kernel) RX0 rfl (Nat.le_of_ble_eq_true rfl) ?_
  intro p e s m args below meth c ls X hP hl
  have hl : lv_has ls 7 [(0, .ref (B + q)), (1, .int a1), (2, .int a2), (3, .int a3), (4, .int a4)] := hl
  have hS : va_S (FB B) s.heap s.heap [] := va_S.rf
  obtain ⟨hx, hb, hr, hml, hown, hts, hKn, hlk⟩ := id X
  unfold f_X0_doPart at h
  refine lv_iload_n hx hb dX0_doPart_0 rfl (lv_at hl 1 rfl) ?_
  refine lv_bipush (v := 16) hx hb dX0_doPart_1 (by decide) ?_
  refine lv_icmp_ne (tgt := 16) hx hb dX0_doPart_3 (by decide) (fun hc => ?_) (fun hc => ?_)
  · replace h := if_eln h hc
    refine lv_aload_n hx hb dX0_doPart_16 rfl (lv_at hl 0 rfl) ?_
    refine gf_X0_46 X hP (kA_0 hq) dX0_doPart_17 ?_
    refine lv_iload hx hb dX0_doPart_20 (lv_at hl 4 rfl) ?_
    obtain ⟨g_1, h⟩ := gd_el h
    refine r_aaM X hP g_1 dX0_doPart_22 ?_
    have h_1 := isM_of g_1
    refine lv_astore (lv' := [(5, .ref (B + (29 + 6 * a4.toNatClampNeg))), (0, .ref (B + q)), (1, .int a1), (2, .int a2), (3, .int a3), (4, .int a4)]) hx hb dX0_doPart_23 hl (by decide) rfl (fun ls hl => ?_)
    refine lv_aload_n hx hb dX0_doPart_25 rfl (lv_at hl 1 rfl) ?_
    refine lv_aload hx hb dX0_doPart_26 (lv_at hl 0 rfl) ?_
    obtain ⟨r_1, h_2, h⟩ := bd_el h
    refine cl_v (rn_V (C := RX0) (ci := 0) X hP (c_X0_mark hq h_1 h_2) (kA_0 hq) rfl k_367 k_368 k_883 k_8 k_369 rfl hd_X0_mark (n := 1) ⟨⟨rfl, rfl⟩, by simp only [rmP, rmT, rmX0_mark]; omega, by simp only [rmP, rmT, rmX0_mark]; omega⟩ (As := [.ref (B + (29 + 6 * a4.toNatClampNeg))]) (rest := []) rfl hl.1 rfl (Nat.le_of_ble_eq_true rfl) dX0_doPart_28 ⟨Nat.zero_le _, Nat.zero_le _⟩) hS (fun H locs hP hS => ?_)
    refine lv_aload_n hx hb dX0_doPart_31 rfl (lv_at hl 1 rfl) ?_
    refine lv_iload_n hx hb dX0_doPart_32 rfl (lv_at hl 3 rfl) ?_
    refine lv_iload hx hb dX0_doPart_33 (lv_at hl 5 rfl) ?_
    refine lv_iconst (v := 1) hx hb dX0_doPart_35 (by decide) ?_
    refine lv_iadd hx hb dX0_doPart_36 ?_
    obtain ⟨r_2, h_3, h⟩ := bd_el h
    refine cl_i (rn_V (C := RX0) (ci := 0) X hP (hD _ _ _ _ h_3) (kA_0 hq) rfl k_366 k_361 k_881 k_8 k_362 rfl hd_X0_doTrade (n := 2) ⟨⟨rfl, rfl⟩, by simp only [rmP, rmT]; omega, by simp only [rmP, rmT]; omega⟩ (As := [.int a2, .int (a4 + 1)]) (rest := []) rfl hl.1 rfl (Nat.le_of_ble_eq_true rfl) dX0_doPart_37 ⟨Nat.zero_le _, Nat.zero_le _⟩) hS (fun H locs hP hS => ?_)
    refine lv_istore (lv' := [(6, .int r_2.1), (5, .ref (B + (29 + 6 * a4.toNatClampNeg))), (0, .ref (B + q)), (1, .int a1), (2, .int a2), (3, .int a3), (4, .int a4)]) hx hb dX0_doPart_40 hl (by decide) rfl (fun ls hl => ?_)
    refine lv_iload_n hx hb dX0_doPart_42 rfl (lv_at hl 3 rfl) ?_
    refine lv_iload hx hb dX0_doPart_43 (lv_at hl 0 rfl) ?_
    obtain ⟨r_3, h_4, h⟩ := bd_el h
    refine cl_i (rn_S X hP (c_X0_isUndone h_4) k_370 k_371 k_8 k_372 hd_X0_isUndone (n := 2) ⟨⟨rfl, rfl⟩, by simp only [rmP, rmT, rmX0_isUndone]; omega, by simp only [rmP, rmT, rmX0_isUndone]; omega⟩ (As := [.int a1, .int r_2.1]) (rest := []) rfl hl.1 rfl (Nat.le_of_ble_eq_true rfl) dX0_doPart_45 ⟨Nat.zero_le _, Nat.zero_le _⟩) hS (fun H locs hP hS => ?_)
    refine lv_if_ne (tgt := 54) hx hb dX0_doPart_48 (by decide) (fun hc => ?_) (fun hc => ?_)
    · replace h := if_eln h hc
      refine lv_aload_n hx hb dX0_doPart_54 rfl (lv_at hl 2 rfl) ?_
      refine lv_aload hx hb dX0_doPart_55 (lv_at hl 1 rfl) ?_
      obtain ⟨r_4, h_5, h⟩ := bd_el h
      refine cl_v (rn_V (C := RX0) (ci := 0) X hP (c_X0_undo hq h_1 h_5) (kA_0 hq) rfl k_373 k_374 k_884 k_8 k_375 rfl hd_X0_undo (n := 1) ⟨⟨rfl, rfl⟩, by simp only [rmP, rmT, rmX0_undo]; omega, by simp only [rmP, rmT, rmX0_undo]; omega⟩ (As := [.ref (B + (29 + 6 * a4.toNatClampNeg))]) (rest := []) rfl hl.1 rfl (Nat.le_of_ble_eq_true rfl) dX0_doPart_57 ⟨Nat.zero_le _, Nat.zero_le _⟩) hS (fun H locs hP hS => ?_)
      refine lv_iload_n hx hb dX0_doPart_60 rfl (lv_at hl 3 rfl) ?_
      refine lv_bipush (v := 17) hx hb dX0_doPart_61 (by decide) ?_
      refine lv_icmp_ne (tgt := 77) hx hb dX0_doPart_63 (by decide) (fun hc => ?_) (fun hc => ?_)
      · replace h := if_eln h hc
        refine lv_aload_n hx hb dX0_doPart_77 rfl (lv_at hl 2 rfl) ?_
        refine lv_aload hx hb dX0_doPart_78 (lv_at hl 1 rfl) ?_
        refine gf_X0_119 X hP (kM_0 h_1) dX0_doPart_80 ?_
        obtain ⟨M_1, e_1, h⟩ := lt_el h
        refine pf_X0_60 X hP hS (kA_0 hq) e_1 dX0_doPart_83 (fun H locs hP hS => ?_)
        refine lv_aload_n hx hb dX0_doPart_86 rfl (lv_at hl 2 rfl) ?_
        refine lv_iload_n hx hb dX0_doPart_87 rfl (lv_at hl 5 rfl) ?_
        refine lv_iload hx hb dX0_doPart_88 (lv_at hl 6 rfl) ?_
        refine lv_iconst (v := 1) hx hb dX0_doPart_90 (by decide) ?_
        refine lv_iadd hx hb dX0_doPart_91 ?_
        obtain ⟨r_5, h_6, h⟩ := bd_el h
        refine cl_i (rn_V (C := RX0) (ci := 0) X hP (hD _ _ _ _ h_6) (kA_0 hq) rfl k_366 k_361 k_881 k_8 k_362 rfl hd_X0_doTrade (n := 2) ⟨⟨rfl, rfl⟩, by simp only [rmP, rmT]; omega, by simp only [rmP, rmT]; omega⟩ (As := [.int a3, .int (a4 + 1)]) (rest := []) rfl hl.1 rfl (Nat.le_of_ble_eq_true rfl) dX0_doPart_92 ⟨Nat.zero_le _, Nat.zero_le _⟩) hS (fun H locs hP hS => ?_)
        exact r_iret X hP hS (pr1 h) (pr2 h) dX0_doPart_95
      · replace h := if_elp h hc
        refine lv_aload_n hx hb dX0_doPart_66 rfl (lv_at hl 2 rfl) ?_
        refine lv_iconst (v := (-1)) hx hb dX0_doPart_67 (by decide) ?_
        refine lv_iload hx hb dX0_doPart_68 (lv_at hl 0 rfl) ?_
        refine lv_isub hx hb dX0_doPart_70 ?_
        refine lv_i2l (v := (Int32.toInt64 ((-1) - r_2.1))) hx hb dX0_doPart_71 rfl ?_
        obtain ⟨M_2, e_2, h⟩ := lt_el h
        refine pf_X0_60 X hP hS (kA_0 hq) e_2 dX0_doPart_72 (fun H locs hP hS => ?_)
        refine lv_iconst (v := 0) hx hb dX0_doPart_75 (by decide) ?_
        exact r_iret X hP hS (pr1 h) (pr2 h) dX0_doPart_76
    · replace h := if_elp h hc
      refine lv_iload hx hb dX0_doPart_51 (lv_at hl 0 rfl) ?_
      exact r_iret X hP hS (pr1 h) (pr2 h) dX0_doPart_53
  · replace h := if_elp h hc
    refine lv_aload_n hx hb dX0_doPart_6 rfl (lv_at hl 0 rfl) ?_
    refine lv_iload_n hx hb dX0_doPart_7 rfl (lv_at hl 2 rfl) ?_
    refine lv_iload hx hb dX0_doPart_8 (lv_at hl 4 rfl) ?_
    refine lv_iconst (v := 1) hx hb dX0_doPart_10 (by decide) ?_
    refine lv_iadd hx hb dX0_doPart_11 ?_
    obtain ⟨r_6, h_7, h⟩ := bd_el h
    refine cl_i (rn_V (C := RX0) (ci := 0) X hP (hD _ _ _ _ h_7) (kA_0 hq) rfl k_366 k_361 k_881 k_8 k_362 rfl hd_X0_doTrade (n := 2) ⟨⟨rfl, rfl⟩, by simp only [rmP, rmT]; omega, by simp only [rmP, rmT]; omega⟩ (As := [.int a2, .int (a4 + 1)]) (rest := []) rfl hl.1 rfl (Nat.le_of_ble_eq_true rfl) dX0_doPart_12 ⟨Nat.zero_le _, Nat.zero_le _⟩) hS (fun H locs hP hS => ?_)
    exact r_iret X hP hS (pr1 h) (pr2 h) dX0_doPart_15
def f_X0_doTrade_214 (D : Mem → Int32 → Int32 → Option (Int32 × Mem)) (q : Nat) (K14 : Mem → Int32 → Int32 → Int32 → Int32 → Option (Int32 × Mem)) (M : Mem) (v1 : Int32) (v2 : Int32) (v3 : Int32) (v4 : Int32) : Option (Int32 × Mem) :=
  lt (v4 + 1) fun v_1 => K14 M v1 v2 v3 v_1
set_option maxRecDepth 100000 in
set_option maxHeartbeats 4000000 in
theorem w_X0_doTrade_214 (X : Cx p s m args meth c cX0_doTrade RX0 7 (some .int) G cy) {q : Nat} (hq : isA q) {k : Nat} {D : Mem → Int32 → Int32 → Option (Int32 × Mem)} (hD : ∀ (M : Mem) (a1 a2 : Int32) (out : Int32 × Mem), D M a1 a2 = some out → Met l yX0_doTrade (wsU yX0_doTrade cX0_doTrade 7 (some .int)) (rmT k) (va_Pc [.ref (B + q), .int a1, .int a2] (PU G B cy nT M)) (Qi G B cy nT out.1 out.2) 0 0 (FB B)) {out : Int32 × Mem} {K14 : Mem → Int32 → Int32 → Int32 → Int32 → Option (Int32 × Mem)} (hK14 : ∀ (H : Heap) (locs : List Loc) (ls : Array Slot) (M : Mem) (v1 : Int32) (v2 : Int32) (v3 : Int32) (v4 : Int32), Pic G B cy nT M H → va_S (FB B) s.heap H locs → lv_has ls 7 [(0, .ref (B + q)), (1, .int v1), (2, .int v2), (3, .int v3), (4, .int v4)] → K14 M v1 v2 v3 v4 = some out → W p l e (rmT (k + 1)) s m args below meth c H locs 0 0 (MQ below (Qi G B cy nT out.1 out.2) args s 0 0 (FB B)) (F0 m 14 ls [])) {M : Mem} {v1 : Int32} {v2 : Int32} {v3 : Int32} {v4 : Int32} (hP : Pic G B cy nT M H) (hS : va_S (FB B) s.heap H locs) (hl : lv_has ls 7 [(0, .ref (B + q)), (1, .int v1), (2, .int v2), (3, .int v3), (4, .int v4)]) (h : f_X0_doTrade_214 D q K14 M v1 v2 v3 v4 = some out) : W p l e (rmT (k + 1)) s m args below meth c H locs 0 0 (MQ below (Qi G B cy nT out.1 out.2) args s 0 0 (FB B)) (F0 m 214 ls []) := by
  obtain ⟨hx, hb, hr, hml, hown, hts, hKn, hlk⟩ := id X
  unfold f_X0_doTrade_214 at h
  obtain ⟨v_1, e_1, h⟩ := lt_el h
  refine lv_iinc (v := v_1) (lv' := [(4, .int v_1), (0, .ref (B + q)), (1, .int v1), (2, .int v2), (3, .int v3)]) hx hb dX0_doTrade_214 hl (k := 4) rfl (by rw [e_1]; rfl) (by decide) rfl (fun ls hl => ?_)
  refine lv_goto (tgt := 14) hx hb dX0_doTrade_217 (by decide) ?_
  exact hK14 _ _ _ _ _ _ _ _ hP hS (lv_sub hl [1, 2, 3, 4, 0] rfl) h
def f_X0_doTrade_156 (D : Mem → Int32 → Int32 → Option (Int32 × Mem)) (q : Nat) (K14 : Mem → Int32 → Int32 → Int32 → Int32 → Option (Int32 × Mem)) (M : Mem) (v1 : Int32) (v2 : Int32) (v4 : Int32) (v5 : Int32) (v6 : Int32) : Option (Int32 × Mem) :=
  gd (inR v5 384) <| gd (inR v5 384) <| Option.bind (f_X0_doPart D q M v6 (gI M 15 v5.toNatClampNeg) (gI M 16 v5.toNatClampNeg) v2) fun r_1 => f_X0_doTrade_214 D q K14 r_1.2 v1 v2 r_1.1 v4
set_option maxRecDepth 100000 in
set_option maxHeartbeats 4000000 in
theorem w_X0_doTrade_156 (X : Cx p s m args meth c cX0_doTrade RX0 7 (some .int) G cy) {q : Nat} (hq : isA q) {k : Nat} {D : Mem → Int32 → Int32 → Option (Int32 × Mem)} (hD : ∀ (M : Mem) (a1 a2 : Int32) (out : Int32 × Mem), D M a1 a2 = some out → Met l yX0_doTrade (wsU yX0_doTrade cX0_doTrade 7 (some .int)) (rmT k) (va_Pc [.ref (B + q), .int a1, .int a2] (PU G B cy nT M)) (Qi G B cy nT out.1 out.2) 0 0 (FB B)) {out : Int32 × Mem} {K14 : Mem → Int32 → Int32 → Int32 → Int32 → Option (Int32 × Mem)} (hK14 : ∀ (H : Heap) (locs : List Loc) (ls : Array Slot) (M : Mem) (v1 : Int32) (v2 : Int32) (v3 : Int32) (v4 : Int32), Pic G B cy nT M H → va_S (FB B) s.heap H locs → lv_has ls 7 [(0, .ref (B + q)), (1, .int v1), (2, .int v2), (3, .int v3), (4, .int v4)] → K14 M v1 v2 v3 v4 = some out → W p l e (rmT (k + 1)) s m args below meth c H locs 0 0 (MQ below (Qi G B cy nT out.1 out.2) args s 0 0 (FB B)) (F0 m 14 ls [])) {M : Mem} {v1 : Int32} {v2 : Int32} {v4 : Int32} {v5 : Int32} {v6 : Int32} (hP : Pic G B cy nT M H) (hS : va_S (FB B) s.heap H locs) (hl : lv_has ls 7 [(0, .ref (B + q)), (1, .int v1), (2, .int v2), (4, .int v4), (5, .int v5), (6, .int v6)]) (h : f_X0_doTrade_156 D q K14 M v1 v2 v4 v5 v6 = some out) : W p l e (rmT (k + 1)) s m args below meth c H locs 0 0 (MQ below (Qi G B cy nT out.1 out.2) args s 0 0 (FB B)) (F0 m 156 ls []) := by
  obtain ⟨hx, hb, hr, hml, hown, hts, hKn, hlk⟩ := id X
  unfold f_X0_doTrade_156 at h
  refine lv_aload_n hx hb dX0_doTrade_156 rfl (lv_at hl 0 rfl) ?_
  refine lv_iload hx hb dX0_doTrade_157 (lv_at hl 5 rfl) ?_
  refine lv_aload_n hx hb dX0_doTrade_159 rfl (lv_at hl 0 rfl) ?_
  refine gf_X0_42 X hP (kA_0 hq) dX0_doTrade_160 ?_
  refine gf_X0_90 X hP dX0_doTrade_163 ?_
  refine lv_iload hx hb dX0_doTrade_166 (lv_at hl 4 rfl) ?_
  obtain ⟨g_1, h⟩ := gd_el h
  refine r_iald X hP kq_15 g_1 dX0_doTrade_168 ?_
  refine lv_aload_n hx hb dX0_doTrade_169 rfl (lv_at hl 0 rfl) ?_
  refine gf_X0_42 X hP (kA_0 hq) dX0_doTrade_170 ?_
  refine gf_X0_93 X hP dX0_doTrade_173 ?_
  refine lv_iload hx hb dX0_doTrade_176 (lv_at hl 4 rfl) ?_
  obtain ⟨g_2, h⟩ := gd_el h
  refine r_iald X hP kq_16 g_2 dX0_doTrade_178 ?_
  refine lv_iload_n hx hb dX0_doTrade_179 rfl (lv_at hl 2 rfl) ?_
  obtain ⟨r_1, h_1, h⟩ := bd_el h
  refine cl_i (rn_V (C := RX0) (ci := 0) X hP (c_X0_doPart hq hD h_1) (kA_0 hq) rfl k_363 k_364 k_882 k_8 k_365 rfl hd_X0_doPart (n := 4) ⟨⟨rfl, rfl⟩, by simp only [rmP, rmT]; omega, by simp only [rmP, rmT]; omega⟩ (As := [.int v6, .int (gI M 15 v5.toNatClampNeg), .int (gI M 16 v5.toNatClampNeg), .int v2]) (rest := []) rfl hl.1 rfl (Nat.le_of_ble_eq_true rfl) dX0_doTrade_180 ⟨Nat.zero_le _, Nat.zero_le _⟩) hS (fun H locs hP hS => ?_)
  refine lv_istore_n (lv' := [(3, .int r_1.1), (0, .ref (B + q)), (1, .int v1), (2, .int v2), (4, .int v4), (5, .int v5), (6, .int v6)]) hx hb dX0_doTrade_183 rfl hl (by decide) rfl (fun ls hl => ?_)
  refine lv_goto (tgt := 214) hx hb dX0_doTrade_184 (by decide) ?_
  exact w_X0_doTrade_214 X hq hD hK14 hP hS (lv_sub hl [1, 2, 3, 0, 4] rfl) h
def f_X0_doTrade_129 (D : Mem → Int32 → Int32 → Option (Int32 × Mem)) (q : Nat) (K14 : Mem → Int32 → Int32 → Int32 → Int32 → Option (Int32 × Mem)) (M : Mem) (v1 : Int32) (v2 : Int32) (v3 : Int32) (s0 : Int32) (s1 : Int32) : Option (Int32 × Mem) :=
  lt (s1 + s0) fun v_1 => f_X0_doTrade_214 D q K14 M v1 v2 v3 v_1
set_option maxRecDepth 100000 in
set_option maxHeartbeats 4000000 in
theorem w_X0_doTrade_129 (X : Cx p s m args meth c cX0_doTrade RX0 7 (some .int) G cy) {q : Nat} (hq : isA q) {k : Nat} {D : Mem → Int32 → Int32 → Option (Int32 × Mem)} (hD : ∀ (M : Mem) (a1 a2 : Int32) (out : Int32 × Mem), D M a1 a2 = some out → Met l yX0_doTrade (wsU yX0_doTrade cX0_doTrade 7 (some .int)) (rmT k) (va_Pc [.ref (B + q), .int a1, .int a2] (PU G B cy nT M)) (Qi G B cy nT out.1 out.2) 0 0 (FB B)) {out : Int32 × Mem} {K14 : Mem → Int32 → Int32 → Int32 → Int32 → Option (Int32 × Mem)} (hK14 : ∀ (H : Heap) (locs : List Loc) (ls : Array Slot) (M : Mem) (v1 : Int32) (v2 : Int32) (v3 : Int32) (v4 : Int32), Pic G B cy nT M H → va_S (FB B) s.heap H locs → lv_has ls 7 [(0, .ref (B + q)), (1, .int v1), (2, .int v2), (3, .int v3), (4, .int v4)] → K14 M v1 v2 v3 v4 = some out → W p l e (rmT (k + 1)) s m args below meth c H locs 0 0 (MQ below (Qi G B cy nT out.1 out.2) args s 0 0 (FB B)) (F0 m 14 ls [])) {M : Mem} {v1 : Int32} {v2 : Int32} {v3 : Int32} {s0 : Int32} {s1 : Int32} (hP : Pic G B cy nT M H) (hS : va_S (FB B) s.heap H locs) (hl : lv_has ls 7 [(0, .ref (B + q)), (1, .int v1), (2, .int v2), (3, .int v3)]) (h : f_X0_doTrade_129 D q K14 M v1 v2 v3 s0 s1 = some out) : W p l e (rmT (k + 1)) s m args below meth c H locs 0 0 (MQ below (Qi G B cy nT out.1 out.2) args s 0 0 (FB B)) (F0 m 129 ls [.int s0, .int s1]) := by
  obtain ⟨hx, hb, hr, hml, hown, hts, hKn, hlk⟩ := id X
  unfold f_X0_doTrade_129 at h
  refine lv_iadd hx hb dX0_doTrade_129 ?_
  obtain ⟨v_1, e_1, h⟩ := lt_el h
  refine r_topi e_1 ?_
  refine lv_istore (lv' := [(4, .int v_1), (0, .ref (B + q)), (1, .int v1), (2, .int v2), (3, .int v3)]) hx hb dX0_doTrade_130 hl (by decide) rfl (fun ls hl => ?_)
  refine lv_goto (tgt := 214) hx hb dX0_doTrade_132 (by decide) ?_
  exact w_X0_doTrade_214 X hq hD hK14 hP hS (lv_sub hl [1, 2, 3, 4, 0] rfl) h
def f_X0_doTrade_14 (D : Mem → Int32 → Int32 → Option (Int32 × Mem)) (q : Nat) : Nat → Mem → Int32 → Int32 → Int32 → Int32 → Option (Int32 × Mem)
  | 0, _, _, _, _, _ => none
  | n + 1, M, v1, v2, v3, v4 => gd (inR v1 16) <| if (gI M 12 v1.toNatClampNeg) ≤ v4 then (some (v3, M)) else (if v3 = 0 then (gd (inR v2 6) <| lt (sI M (q + 6) v2.toNatClampNeg v1) fun M_1 => gd (inR v2 6) <| lt (sI M_1 (q + 7) v2.toNatClampNeg v4) fun M_2 => lt (sI M_2 q 10 (v2 + 1)) fun M_3 => if (gI M_3 q 5) < 40 then (lt (sI M_3 q 5 ((gI M_3 q 5) + 1)) fun M_4 => lt ((v1 * 24) + v4) fun v_1 => gd (inR v_1 384) <| lt (gI M_4 14 v_1.toNatClampNeg) fun v_2 => if v_2 = 13 then (if (gL M_4 q 6) = 0 then (gd (inR v_1 384) <| f_X0_doTrade_129 D q (f_X0_doTrade_14 D q n) M_4 v1 v2 v3 (gI M_4 15 v_1.toNatClampNeg) v4) else (f_X0_doTrade_129 D q (f_X0_doTrade_14 D q n) M_4 v1 v2 v3 0 v4)) else (if v_2 = 16 then (f_X0_doTrade_156 D q (f_X0_doTrade_14 D q n) M_4 v1 v2 v4 v_1 v_2) else (if v_2 = 17 then (f_X0_doTrade_156 D q (f_X0_doTrade_14 D q n) M_4 v1 v2 v4 v_1 v_2) else (if v_2 = 18 then (f_X0_doTrade_156 D q (f_X0_doTrade_14 D q n) M_4 v1 v2 v4 v_1 v_2) else (gd (inR v_1 384) <| gd (inR v_1 384) <| Option.bind (f_X0_doStep q M_4 v_2 (gI M_4 15 v_1.toNatClampNeg) (gI M_4 16 v_1.toNatClampNeg)) fun r_1 => f_X0_doTrade_214 D q (f_X0_doTrade_14 D q n) r_1.2 v1 v2 r_1.1 v4))))) else (some (10, M_3))) else (some (v3, M)))
set_option maxRecDepth 100000 in
set_option maxHeartbeats 4000000 in
theorem w_X0_doTrade_14 (X : Cx p s m args meth c cX0_doTrade RX0 7 (some .int) G cy) {q : Nat} (hq : isA q) {k : Nat} {D : Mem → Int32 → Int32 → Option (Int32 × Mem)} (hD : ∀ (M : Mem) (a1 a2 : Int32) (out : Int32 × Mem), D M a1 a2 = some out → Met l yX0_doTrade (wsU yX0_doTrade cX0_doTrade 7 (some .int)) (rmT k) (va_Pc [.ref (B + q), .int a1, .int a2] (PU G B cy nT M)) (Qi G B cy nT out.1 out.2) 0 0 (FB B)) {out : Int32 × Mem} : ∀ n : Nat, ∀ (H : Heap) (locs : List Loc) (ls : Array Slot) (M : Mem) (v1 : Int32) (v2 : Int32) (v3 : Int32) (v4 : Int32), Pic G B cy nT M H → va_S (FB B) s.heap H locs → lv_has ls 7 [(0, .ref (B + q)), (1, .int v1), (2, .int v2), (3, .int v3), (4, .int v4)] → f_X0_doTrade_14 D q n M v1 v2 v3 v4 = some out → W p l e (rmT (k + 1)) s m args below meth c H locs 0 0 (MQ below (Qi G B cy nT out.1 out.2) args s 0 0 (FB B)) (F0 m 14 ls []) := by
  obtain ⟨hx, hb, hr, hml, hown, hts, hKn, hlk⟩ := id X
  intro n
  induction n with
  | zero =>
    intro H locs ls M v1 v2 v3 v4 hP hS hl h
    cases h
  | succ n ih =>
    intro H locs ls M v1 v2 v3 v4 hP hS hl h
    rw [f_X0_doTrade_14] at h
    refine lv_iload hx hb dX0_doTrade_14 (lv_at hl 4 rfl) ?_
    refine lv_aload_n hx hb dX0_doTrade_16 rfl (lv_at hl 0 rfl) ?_
    refine gf_X0_42 X hP (kA_0 hq) dX0_doTrade_17 ?_
    refine gf_X0_82 X hP dX0_doTrade_20 ?_
    refine lv_iload_n hx hb dX0_doTrade_23 rfl (lv_at hl 1 rfl) ?_
    obtain ⟨g_1, h⟩ := gd_el h
    refine r_iald X hP kq_12 g_1 dX0_doTrade_24 ?_
    refine lv_icmp_ge (tgt := 220) hx hb dX0_doTrade_25 (by decide) (fun hc => ?_) (fun hc => ?_)
    · replace h := if_elp h hc
      refine lv_iload_n hx hb dX0_doTrade_220 rfl (lv_at hl 3 rfl) ?_
      exact r_iret X hP hS (pr1 h) (pr2 h) dX0_doTrade_221
    · replace h := if_eln h hc
      refine lv_iload_n hx hb dX0_doTrade_28 rfl (lv_at hl 3 rfl) ?_
      refine lv_if_ne (tgt := 220) hx hb dX0_doTrade_29 (by decide) (fun hc => ?_) (fun hc => ?_)
      · replace h := if_eln h hc
        refine lv_iload_n hx hb dX0_doTrade_220 rfl (lv_at hl 3 rfl) ?_
        exact r_iret X hP hS (pr1 h) (pr2 h) dX0_doTrade_221
      · replace h := if_elp h hc
        refine lv_aload_n hx hb dX0_doTrade_32 rfl (lv_at hl 0 rfl) ?_
        refine gf_X0_22 X hP (kA_0 hq) dX0_doTrade_33 ?_
        refine lv_iload_n hx hb dX0_doTrade_36 rfl (lv_at hl 2 rfl) ?_
        refine lv_iload_n hx hb dX0_doTrade_37 rfl (lv_at hl 1 rfl) ?_
        obtain ⟨g_2, h⟩ := gd_el h
        obtain ⟨M_1, e_1, h⟩ := lt_el h
        refine r_iast X hP hS (kA_6 hq) g_2 e_1 dX0_doTrade_38 (fun H locs hP hS => ?_)
        refine lv_aload_n hx hb dX0_doTrade_39 rfl (lv_at hl 0 rfl) ?_
        refine gf_X0_26 X hP (kA_0 hq) dX0_doTrade_40 ?_
        refine lv_iload_n hx hb dX0_doTrade_43 rfl (lv_at hl 2 rfl) ?_
        refine lv_iload hx hb dX0_doTrade_44 (lv_at hl 4 rfl) ?_
        obtain ⟨g_3, h⟩ := gd_el h
        obtain ⟨M_2, e_2, h⟩ := lt_el h
        refine r_iast X hP hS (kA_7 hq) g_3 e_2 dX0_doTrade_46 (fun H locs hP hS => ?_)
        refine lv_aload_n hx hb dX0_doTrade_47 rfl (lv_at hl 0 rfl) ?_
        refine lv_iload_n hx hb dX0_doTrade_48 rfl (lv_at hl 2 rfl) ?_
        refine lv_iconst (v := 1) hx hb dX0_doTrade_49 (by decide) ?_
        refine lv_iadd hx hb dX0_doTrade_50 ?_
        obtain ⟨M_3, e_3, h⟩ := lt_el h
        refine pf_X0_73 X hP hS (kA_0 hq) e_3 dX0_doTrade_51 (fun H locs hP hS => ?_)
        refine lv_aload_n hx hb dX0_doTrade_54 rfl (lv_at hl 0 rfl) ?_
        refine gf_X0_57 X hP (kA_0 hq) dX0_doTrade_55 ?_
        refine lv_bipush (v := 40) hx hb dX0_doTrade_58 (by decide) ?_
        refine lv_icmp_lt (tgt := 66) hx hb dX0_doTrade_60 (by decide) (fun hc => ?_) (fun hc => ?_)
        · replace h := if_elp h hc
          refine lv_aload_n hx hb dX0_doTrade_66 rfl (lv_at hl 0 rfl) ?_
          refine lv_dup hx hb dX0_doTrade_67 rfl ?_
          refine gf_X0_57 X hP (kA_0 hq) dX0_doTrade_68 ?_
          refine lv_iconst (v := 1) hx hb dX0_doTrade_71 (by decide) ?_
          refine lv_iadd hx hb dX0_doTrade_72 ?_
          obtain ⟨M_4, e_4, h⟩ := lt_el h
          refine pf_X0_57 X hP hS (kA_0 hq) e_4 dX0_doTrade_73 (fun H locs hP hS => ?_)
          refine lv_iload_n hx hb dX0_doTrade_76 rfl (lv_at hl 1 rfl) ?_
          refine lv_bipush (v := 24) hx hb dX0_doTrade_77 (by decide) ?_
          refine lv_imul hx hb dX0_doTrade_79 ?_
          refine lv_iload hx hb dX0_doTrade_80 (lv_at hl 4 rfl) ?_
          refine lv_iadd hx hb dX0_doTrade_82 ?_
          obtain ⟨v_1, e_5, h⟩ := lt_el h
          refine r_topi e_5 ?_
          refine lv_istore (lv' := [(5, .int v_1), (0, .ref (B + q)), (1, .int v1), (2, .int v2), (3, .int v3), (4, .int v4)]) hx hb dX0_doTrade_83 hl (by decide) rfl (fun ls hl => ?_)
          refine lv_aload_n hx hb dX0_doTrade_85 rfl (lv_at hl 1 rfl) ?_
          refine gf_X0_42 X hP (kA_0 hq) dX0_doTrade_86 ?_
          refine gf_X0_87 X hP dX0_doTrade_89 ?_
          refine lv_iload hx hb dX0_doTrade_92 (lv_at hl 0 rfl) ?_
          obtain ⟨g_4, h⟩ := gd_el h
          refine r_iald X hP kq_14 g_4 dX0_doTrade_94 ?_
          obtain ⟨v_2, e_6, h⟩ := lt_el h
          refine r_topi e_6 ?_
          refine lv_istore (lv' := [(6, .int v_2), (5, .int v_1), (0, .ref (B + q)), (1, .int v1), (2, .int v2), (3, .int v3), (4, .int v4)]) hx hb dX0_doTrade_95 hl (by decide) rfl (fun ls hl => ?_)
          refine lv_iload hx hb dX0_doTrade_97 (lv_at hl 0 rfl) ?_
          refine lv_bipush (v := 13) hx hb dX0_doTrade_99 (by decide) ?_
          refine lv_icmp_ne (tgt := 135) hx hb dX0_doTrade_101 (by decide) (fun hc => ?_) (fun hc => ?_)
          · replace h := if_eln h hc
            refine lv_iload hx hb dX0_doTrade_135 (lv_at hl 0 rfl) ?_
            refine lv_bipush (v := 16) hx hb dX0_doTrade_137 (by decide) ?_
            refine lv_icmp_eq (tgt := 156) hx hb dX0_doTrade_139 (by decide) (fun hc => ?_) (fun hc => ?_)
            · replace h := if_elp h hc
              exact w_X0_doTrade_156 X hq hD ih hP hS (lv_sub hl [2, 3, 4, 6, 1, 0] rfl) h
            · replace h := if_eln h hc
              refine lv_iload hx hb dX0_doTrade_142 (lv_at hl 0 rfl) ?_
              refine lv_bipush (v := 17) hx hb dX0_doTrade_144 (by decide) ?_
              refine lv_icmp_eq (tgt := 156) hx hb dX0_doTrade_146 (by decide) (fun hc => ?_) (fun hc => ?_)
              · replace h := if_elp h hc
                exact w_X0_doTrade_156 X hq hD ih hP hS (lv_sub hl [2, 3, 4, 6, 1, 0] rfl) h
              · replace h := if_eln h hc
                refine lv_iload hx hb dX0_doTrade_149 (lv_at hl 0 rfl) ?_
                refine lv_bipush (v := 18) hx hb dX0_doTrade_151 (by decide) ?_
                refine lv_icmp_ne (tgt := 187) hx hb dX0_doTrade_153 (by decide) (fun hc => ?_) (fun hc => ?_)
                · replace h := if_eln h hc
                  refine lv_aload_n hx hb dX0_doTrade_187 rfl (lv_at hl 2 rfl) ?_
                  refine lv_iload hx hb dX0_doTrade_188 (lv_at hl 0 rfl) ?_
                  refine lv_aload_n hx hb dX0_doTrade_190 rfl (lv_at hl 2 rfl) ?_
                  refine gf_X0_42 X hP (kA_0 hq) dX0_doTrade_191 ?_
                  refine gf_X0_90 X hP dX0_doTrade_194 ?_
                  refine lv_iload hx hb dX0_doTrade_197 (lv_at hl 1 rfl) ?_
                  obtain ⟨g_5, h⟩ := gd_el h
                  refine r_iald X hP kq_15 g_5 dX0_doTrade_199 ?_
                  refine lv_aload_n hx hb dX0_doTrade_200 rfl (lv_at hl 2 rfl) ?_
                  refine gf_X0_42 X hP (kA_0 hq) dX0_doTrade_201 ?_
                  refine gf_X0_93 X hP dX0_doTrade_204 ?_
                  refine lv_iload hx hb dX0_doTrade_207 (lv_at hl 1 rfl) ?_
                  obtain ⟨g_6, h⟩ := gd_el h
                  refine r_iald X hP kq_16 g_6 dX0_doTrade_209 ?_
                  obtain ⟨r_1, h_1, h⟩ := bd_el h
                  refine cl_i (rn_V (C := RX0) (ci := 0) X hP (c_X0_doStep hq h_1) (kA_0 hq) rfl k_376 k_377 k_885 k_8 k_378 rfl hd_X0_doStep (n := 3) ⟨⟨rfl, rfl⟩, by simp only [rmP, rmT, rmX0_doStep]; omega, by simp only [rmP, rmT, rmX0_doStep]; omega⟩ (As := [.int v_2, .int (gI M_4 15 v_1.toNatClampNeg), .int (gI M_4 16 v_1.toNatClampNeg)]) (rest := []) rfl hl.1 rfl (Nat.le_of_ble_eq_true rfl) dX0_doTrade_210 ⟨Nat.zero_le _, Nat.zero_le _⟩) hS (fun H locs hP hS => ?_)
                  refine lv_istore_n (lv' := [(3, .int r_1.1), (6, .int v_2), (5, .int v_1), (0, .ref (B + q)), (1, .int v1), (2, .int v2), (4, .int v4)]) hx hb dX0_doTrade_213 rfl hl (by decide) rfl (fun ls hl => ?_)
                  exact w_X0_doTrade_214 X hq hD ih hP hS (lv_sub hl [3, 4, 5, 0, 6] rfl) h
                · replace h := if_elp h hc
                  exact w_X0_doTrade_156 X hq hD ih hP hS (lv_sub hl [2, 3, 4, 6, 1, 0] rfl) h
          · replace h := if_elp h hc
            refine lv_iload hx hb dX0_doTrade_104 (lv_at hl 6 rfl) ?_
            refine lv_aload_n hx hb dX0_doTrade_106 rfl (lv_at hl 2 rfl) ?_
            refine gf_X0_60 X hP (kA_0 hq) dX0_doTrade_107 ?_
            refine lv_lconst (v := 0) hx hb dX0_doTrade_110 rfl ?_
            refine W.lcmp hx hb dX0_doTrade_111 ?_
            refine lv_if_ne (tgt := 128) hx hb dX0_doTrade_112 (by decide) (fun hc => ?_) (fun hc => ?_)
            · replace h := if_eln h (fun z => hc (lc_eq.mpr z))
              refine lv_iconst (v := 0) hx hb dX0_doTrade_128 (by decide) ?_
              exact w_X0_doTrade_129 X hq hD ih hP hS (lv_sub hl [2, 3, 4, 5] rfl) h
            · replace h := if_elp h (lc_eq.mp hc)
              refine lv_aload_n hx hb dX0_doTrade_115 rfl (lv_at hl 2 rfl) ?_
              refine gf_X0_42 X hP (kA_0 hq) dX0_doTrade_116 ?_
              refine gf_X0_90 X hP dX0_doTrade_119 ?_
              refine lv_iload hx hb dX0_doTrade_122 (lv_at hl 1 rfl) ?_
              obtain ⟨g_7, h⟩ := gd_el h
              refine r_iald X hP kq_15 g_7 dX0_doTrade_124 ?_
              refine lv_goto (tgt := 129) hx hb dX0_doTrade_125 (by decide) ?_
              exact w_X0_doTrade_129 X hq hD ih hP hS (lv_sub hl [2, 3, 4, 5] rfl) h
        · replace h := if_eln h hc
          refine lv_bipush (v := 10) hx hb dX0_doTrade_63 (by decide) ?_
          exact r_iret X hP hS (pr1 h) (pr2 h) dX0_doTrade_65
def f_X0_doTrade (D : Mem → Int32 → Int32 → Option (Int32 × Mem)) (q : Nat) (M : Mem) (a1 : Int32) (a2 : Int32) : Option (Int32 × Mem) :=
  if a2 < 6 then (f_X0_doTrade_14 D q FU M a1 a2 0 0) else (some (9, M))
set_option maxRecDepth 100000 in
set_option maxHeartbeats 4000000 in
theorem c_X0_doTrade {l : Launch} {G : va_G} {cy : Nat → ClassId} {B nT : Nat} {q : Nat} (hq : isA q) {k : Nat} {D : Mem → Int32 → Int32 → Option (Int32 × Mem)} (hD : ∀ (M : Mem) (a1 a2 : Int32) (out : Int32 × Mem), D M a1 a2 = some out → Met l yX0_doTrade (wsU yX0_doTrade cX0_doTrade 7 (some .int)) (rmT k) (va_Pc [.ref (B + q), .int a1, .int a2] (PU G B cy nT M)) (Qi G B cy nT out.1 out.2) 0 0 (FB B)) {M : Mem} {a1 : Int32} {a2 : Int32} {out : Int32 × Mem} (h : f_X0_doTrade D q M a1 a2 = some out) : Met l yX0_doTrade (wsU yX0_doTrade cX0_doTrade 7 (some .int)) (rmT (k + 1)) (va_Pc [.ref (B + q), .int a1, .int a2] (PU G B cy nT M)) (Qi G B cy nT out.1 out.2) 0 0 (FB B) := by
  refine r_met (by decide +kernel) RX0 rfl (Nat.le_of_ble_eq_true rfl) ?_
  intro p e s m args below meth c ls X hP hl
  have hl : lv_has ls 7 [(0, .ref (B + q)), (1, .int a1), (2, .int a2)] := hl
  have hS : va_S (FB B) s.heap s.heap [] := va_S.rf
  obtain ⟨hx, hb, hr, hml, hown, hts, hKn, hlk⟩ := id X
  unfold f_X0_doTrade at h
  refine lv_iload_n hx hb dX0_doTrade_0 rfl (lv_at hl 2 rfl) ?_
  refine lv_bipush (v := 6) hx hb dX0_doTrade_1 (by decide) ?_
  refine lv_icmp_lt (tgt := 9) hx hb dX0_doTrade_3 (by decide) (fun hc => ?_) (fun hc => ?_)
  · replace h := if_elp h hc
    refine lv_iconst (v := 0) hx hb dX0_doTrade_9 (by decide) ?_
    refine lv_istore_n (lv' := [(3, .int 0), (0, .ref (B + q)), (1, .int a1), (2, .int a2)]) hx hb dX0_doTrade_10 rfl hl (by decide) rfl (fun ls hl => ?_)
    refine lv_iconst (v := 0) hx hb dX0_doTrade_11 (by decide) ?_
    refine lv_istore (lv' := [(4, .int 0), (3, .int 0), (0, .ref (B + q)), (1, .int a1), (2, .int a2)]) hx hb dX0_doTrade_12 hl (by decide) rfl (fun ls hl => ?_)
    exact w_X0_doTrade_14 X hq hD FU _ _ _ _ _ _ _ _ hP hS (lv_sub hl [2, 3, 4, 1, 0] rfl) h
  · replace h := if_eln h hc
    refine lv_bipush (v := 9) hx hb dX0_doTrade_6 (by decide) ?_
    exact r_iret X hP hS (pr1 h) (pr2 h) dX0_doTrade_8
/-- a trade and what it does, n trades deep at most -/
def f_T (q : Nat) : Nat → Mem → Int32 → Int32 → Option (Int32 × Mem)
  | 0, _, _, _ => none
  | n + 1, M, a1, a2 => f_X0_doTrade (f_T q n) q M a1 a2
theorem c_T {l : Launch} {G : va_G} {cy : Nat → ClassId} {B nT q : Nat} (hq : isA q) : ∀ (n : Nat) (M : Mem) (a1 a2 : Int32) (out : Int32 × Mem), f_T q n M a1 a2 = some out → Met l yX0_doTrade (wsU yX0_doTrade cX0_doTrade 7 (some .int)) (rmT n) (va_Pc [.ref (B + q), .int a1, .int a2] (PU G B cy nT M)) (Qi G B cy nT out.1 out.2) 0 0 (FB B) := by
  intro n
  induction n with
  | zero => intro M a1 a2 out h; cases h
  | succ n ih => intro M a1 a2 out h; exact c_X0_doTrade hq ih h
def f_X0_go (q : Nat) (M : Mem) (a1 a2 : Int32) : Option (Int32 × Mem) := f_T q 7 M a1 a2
theorem c_X0_go {l : Launch} {G : va_G} {cy : Nat → ClassId} {B nT q : Nat} (hq : isA q) {M : Mem} {a1 a2 : Int32} {out : Int32 × Mem} (h : f_X0_go q M a1 a2 = some out) : Met l yX0_doTrade (wsU yX0_doTrade cX0_doTrade 7 (some .int)) (rmT 7) (va_Pc [.ref (B + q), .int a1, .int a2] (PU G B cy nT M)) (Qi G B cy nT out.1 out.2) 0 0 (FB B) := c_T hq 7 M a1 a2 out h
end METHS

theorem hd_X0_init : yX0_init.cls ≠ "java/lang/invoke/MethodHandle" ∧ yX0_init.cls ≠ "java/lang/invoke/VarHandle" ∧ (parseMethodDescriptor yX0_init.desc).map (fun d => d.parameters.length) = some 2 := by decide +kernel
theorem hd_X1_init : yX1_init.cls ≠ "java/lang/invoke/MethodHandle" ∧ yX1_init.cls ≠ "java/lang/invoke/VarHandle" ∧ (parseMethodDescriptor yX1_init.desc).map (fun d => d.parameters.length) = some 0 := by decide +kernel
theorem hd_X2_init : yX2_init.cls ≠ "java/lang/invoke/MethodHandle" ∧ yX2_init.cls ≠ "java/lang/invoke/VarHandle" ∧ (parseMethodDescriptor yX2_init.desc).map (fun d => d.parameters.length) = some 0 := by decide +kernel
theorem hd_X3_init : yX3_init.cls ≠ "java/lang/invoke/MethodHandle" ∧ yX3_init.cls ≠ "java/lang/invoke/VarHandle" ∧ (parseMethodDescriptor yX3_init.desc).map (fun d => d.parameters.length) = some 0 := by decide +kernel
theorem hd_X4_init : yX4_init.cls ≠ "java/lang/invoke/MethodHandle" ∧ yX4_init.cls ≠ "java/lang/invoke/VarHandle" ∧ (parseMethodDescriptor yX4_init.desc).map (fun d => d.parameters.length) = some 0 := by decide +kernel
theorem hd_X5_init : yX5_init.cls ≠ "java/lang/invoke/MethodHandle" ∧ yX5_init.cls ≠ "java/lang/invoke/VarHandle" ∧ (parseMethodDescriptor yX5_init.desc).map (fun d => d.parameters.length) = some 0 := by decide +kernel
theorem hd_X6_init : yX6_init.cls ≠ "java/lang/invoke/MethodHandle" ∧ yX6_init.cls ≠ "java/lang/invoke/VarHandle" ∧ (parseMethodDescriptor yX6_init.desc).map (fun d => d.parameters.length) = some 1 := by decide +kernel
theorem hd_X7_init : yX7_init.cls ≠ "java/lang/invoke/MethodHandle" ∧ yX7_init.cls ≠ "java/lang/invoke/VarHandle" ∧ (parseMethodDescriptor yX7_init.desc).map (fun d => d.parameters.length) = some 0 := by decide +kernel
theorem hd_X8_init : yX8_init.cls ≠ "java/lang/invoke/MethodHandle" ∧ yX8_init.cls ≠ "java/lang/invoke/VarHandle" ∧ (parseMethodDescriptor yX8_init.desc).map (fun d => d.parameters.length) = some 0 := by decide +kernel
theorem hd_X9_init : yX9_init.cls ≠ "java/lang/invoke/MethodHandle" ∧ yX9_init.cls ≠ "java/lang/invoke/VarHandle" ∧ (parseMethodDescriptor yX9_init.desc).map (fun d => d.parameters.length) = some 0 := by decide +kernel
theorem nst_X8_18 : (RX8, 18, yX7_init, "SeedExchange") ∈ nestT := List.mem_of_getElem? (i := 0) rfl
theorem nst_X8_25 : (RX8, 25, yX4_init, "SeedExchange") ∈ nestT := List.mem_of_getElem? (i := 1) rfl
theorem nst_X8_32 : (RX8, 32, yX3_init, "SeedExchange") ∈ nestT := List.mem_of_getElem? (i := 2) rfl
theorem nst_X8_51 : (RX8, 51, yX2_init, "SeedExchange") ∈ nestT := List.mem_of_getElem? (i := 3) rfl
abbrev rmX1_init : Room := { frames := 1, cells := 4, slots := 160, locals := 40 }
set_option maxRecDepth 100000 in
set_option maxHeartbeats 4000000 in
theorem lp_X1_init {p : Program} {l : Launch} {e : Env} {s : State} {m : MethodId} {args : Array Value} {below : List Frame} {meth : Method} {c : Code} {G : va_G} {cy : Nat → ClassId} {B : Nat} {cs0 : List va_E} {q : Nat} (hq : cs0.length = q) (X : Cx p s m args meth c cX1_init RX1 2 none G cy) : ∀ (n k : Nat), k ≤ 40 → 41 ≤ k + n → ∀ (H : Heap) (locs : List Loc) (ls : Array Slot), PT G B (cs0 ++ [.inr (1, [.ref (B + (q + 1)), .ref (B + (q + 2)), .ref (B + (q + 3)), .ref (B + (q + 4))]), .inl (cy 0, 40, .inl (fun _ => 0)), .inl (cy 1, 40, .inr (.inl (fun _ => 0))), .inl (cy 0, 40, .inl (cF k)), .inl (cy 0, 40, .inl (cF k))]) H → va_S (FB B) s.heap H locs → lv_has ls 2 [(1, .int (nI k)), (0, .ref (B + (q + 0)))] → W p l e rmX1_init s m args below meth c H locs 4 160 (MQ below (QvT G B (cs0 ++ [.inr (1, [.ref (B + (q + 1)), .ref (B + (q + 2)), .ref (B + (q + 3)), .ref (B + (q + 4))]), .inl (cy 0, 40, .inl (fun _ => 0)), .inl (cy 1, 40, .inr (.inl (fun _ => 0))), .inl (cy 0, 40, .inl (cF 40)), .inl (cy 0, 40, .inl (cF 40))])) args s 4 160 (FB B)) (F0 m 38 ls []) := by
  obtain ⟨hx, hb, hr, hml, hown, hts, hKn, hlk⟩ := id X
  intro n
  induction n with
  | zero => intro k h1 h2; exact absurd h2 (by omega)
  | succ n ih =>
    intro k hk hn H locs ls hP hS hl
    refine lv_iload_n hx hb dX1_init_38 rfl (lv_at hl 0 rfl) ?_
    refine lv_bipush (v := 40) hx hb dX1_init_39 (by decide) ?_
    refine lv_icmp_ge (tgt := 64) hx hb dX1_init_41 (by decide) (fun hc => ?_) (fun hc => ?_)
    · have hk2 : k = 40 := by
        rcases Nat.lt_or_ge k 40 with z | z
        · exact absurd hc (nI_ge (b := 40) z (by decide))
        · omega
      subst hk2
      exact e_vret X hP hS dX1_init_64
    · have hlt : k < 40 := by
        rcases Nat.lt_or_ge k 40 with z | z
        · exact z
        · exact absurd (nI_le (a := 40) (b := k) z (by omega)) hc
      refine lv_aload_n hx hb dX1_init_44 rfl (lv_at hl 1 rfl) ?_
      refine e_get X hP hq 0 rfl inA1 rfl 2 (by decide) k_41 rfl (v := .ref (B + (q + 3))) rfl dX1_init_45 ?_
      refine lv_iload_n hx hb dX1_init_48 rfl (lv_at hl 0 rfl) ?_
      refine lv_iconst (v := (-1)) hx hb dX1_init_49 (by decide) ?_
      refine e_iast (f := cF k) (n := 40) (t' := [.inr (1, [.ref (B + (q + 1)), .ref (B + (q + 2)), .ref (B + (q + 3)), .ref (B + (q + 4))]), .inl (cy 0, 40, .inl (fun _ => 0)), .inl (cy 1, 40, .inr (.inl (fun _ => 0))), .inl (cy 0, 40, .inl (cF (k + 1))), .inl (cy 0, 40, .inl (cF k))]) X hP hq hS 3 rfl (inR_nI hlt (by decide)) (by rw [cF_s (by omega)]; rfl) dX1_init_50 (fun H locs hP hS => ?_)
      refine lv_aload_n hx hb dX1_init_51 rfl (lv_at hl 1 rfl) ?_
      refine e_get X hP hq 0 rfl inA1 rfl 3 (by decide) k_44 rfl (v := .ref (B + (q + 4))) rfl dX1_init_52 ?_
      refine lv_iload_n hx hb dX1_init_55 rfl (lv_at hl 0 rfl) ?_
      refine lv_iconst (v := (-1)) hx hb dX1_init_56 (by decide) ?_
      refine e_iast (f := cF k) (n := 40) (t' := [.inr (1, [.ref (B + (q + 1)), .ref (B + (q + 2)), .ref (B + (q + 3)), .ref (B + (q + 4))]), .inl (cy 0, 40, .inl (fun _ => 0)), .inl (cy 1, 40, .inr (.inl (fun _ => 0))), .inl (cy 0, 40, .inl (cF (k + 1))), .inl (cy 0, 40, .inl (cF (k + 1)))]) X hP hq hS 4 rfl (inR_nI hlt (by decide)) (by rw [cF_s (by omega)]; rfl) dX1_init_57 (fun H locs hP hS => ?_)
      refine lv_iinc (v := nI (k + 1)) (lv' := [(1, .int (nI (k + 1))), (0, .ref (B + (q + 0)))]) hx hb dX1_init_58 hl (k := 0) rfl (by rw [← nI_1 k]; rfl) (by decide) rfl (fun ls hl => ?_)
      refine lv_goto (tgt := 38) hx hb dX1_init_61 (by decide) ?_
      exact ih (k + 1) (by omega) (by omega) _ _ _ hP hS hl
set_option maxRecDepth 100000 in
set_option maxHeartbeats 4000000 in
theorem c_X1_init {l : Launch} {G : va_G} {cy : Nat → ClassId} {B : Nat} {cs0 : List va_E} {q : Nat} (hq : cs0.length = q) : Met l yX1_init (wsU yX1_init cX1_init 2 none) rmX1_init (va_Pc [.ref (B + q)] (PUT G B cy (cs0 ++ [.inr (1, [.null, .null, .null, .null])]))) (QvT G B (cs0 ++ [.inr (1, [.ref (B + (q + 1)), .ref (B + (q + 2)), .ref (B + (q + 3)), .ref (B + (q + 4))]), .inl (cy 0, 40, .inl (fun _ => 0)), .inl (cy 1, 40, .inr (.inl (fun _ => 0))), .inl (cy 0, 40, .inl (cF 40)), .inl (cy 0, 40, .inl (cF 40))])) 4 160 (FB B) := by
  refine e_met (by decide +kernel) RX1 rfl rfl (Nat.le_of_ble_eq_true rfl) ?_
  intro p e s m args below meth c ls X hO hin hP hl
  have hl : lv_has ls 2 [(0, .ref (B + (q + 0)))] := hl
  have hS : va_S (FB B) s.heap s.heap [] := va_S.rf
  obtain ⟨hx, hb, hr, hml, hown, hts, hKn, hlk⟩ := id X
  have hP : ∃ H, H = s.heap ∧ PT G B (cs0 ++ [.inr (1, [.null, .null, .null, .null])]) H := ⟨_, rfl, hP⟩
  obtain ⟨H, eH, hP⟩ := hP
  have hS : va_S (FB B) s.heap H [] := by rw [eH]; exact hS
  rw [← eH]
  rw [← eH] at hS
  rw [eH] at hS ⊢
  rw [eH] at hP
  refine lv_aload_n hx hb dX1_init_0 rfl (lv_at hl 0 rfl) ?_
  refine W.objInit hx hb hown (hts _ k_32) (hts _ k_19) (hts _ k_20) rfl (by rw [hml]; exact hl.1) rfl dX1_init_1 (Nat.le_of_ble_eq_true rfl) (Nat.le_of_ble_eq_true rfl) ?_
  refine W.eq (g2 := F0 m 4 ls []) rfl ?_
  refine lv_aload_n hx hb dX1_init_4 rfl (lv_at hl 0 rfl) ?_
  refine lv_bipush (v := 40) hx hb dX1_init_5 (by decide) ?_
  refine e_newI (N := 40) X hP hq hS k_47 (n := 1) rfl (by decide) rfl (by decide) (Nat.le_of_ble_eq_true rfl) (Nat.le_of_ble_eq_true rfl) dX1_init_7 (fun H hP hS => ?_)
  have hP : PT G B (cs0 ++ [.inr (1, [.null, .null, .null, .null]), .inl (cy 0, 40, .inl (fun _ => 0))]) H := hP
  refine e_put (ty := tyX1 0) (t' := [.inr (1, [.ref (B + (q + 1)), .null, .null, .null]), .inl (cy 0, 40, .inl (fun _ => 0))]) X hP hq hS 0 rfl inA1 rfl tyX1 tyX1_ok nmX1 0 (by decide) k_33 rfl (Or.inr ⟨rfl, hin, rfl⟩) (by decide +kernel) rfl rfl (Nat.le_of_ble_eq_true rfl) rfl dX1_init_9 (fun H locs hP hS => ?_)
  refine lv_aload_n hx hb dX1_init_12 rfl (lv_at hl 0 rfl) ?_
  refine lv_bipush (v := 40) hx hb dX1_init_13 (by decide) ?_
  refine e_newL (N := 40) X hP hq hS k_48 (n := 2) rfl (by decide) rfl (by decide) (Nat.le_of_ble_eq_true rfl) (Nat.le_of_ble_eq_true rfl) dX1_init_15 (fun H hP hS => ?_)
  have hP : PT G B (cs0 ++ [.inr (1, [.ref (B + (q + 1)), .null, .null, .null]), .inl (cy 0, 40, .inl (fun _ => 0)), .inl (cy 1, 40, .inr (.inl (fun _ => 0)))]) H := hP
  refine e_put (ty := tyX1 1) (t' := [.inr (1, [.ref (B + (q + 1)), .ref (B + (q + 2)), .null, .null]), .inl (cy 0, 40, .inl (fun _ => 0)), .inl (cy 1, 40, .inr (.inl (fun _ => 0)))]) X hP hq hS 0 rfl inA1 rfl tyX1 tyX1_ok nmX1 1 (by decide) k_37 rfl (Or.inr ⟨rfl, hin, rfl⟩) (by decide +kernel) rfl rfl (Nat.le_of_ble_eq_true rfl) rfl dX1_init_17 (fun H locs hP hS => ?_)
  refine lv_aload_n hx hb dX1_init_20 rfl (lv_at hl 0 rfl) ?_
  refine lv_bipush (v := 40) hx hb dX1_init_21 (by decide) ?_
  refine e_newI (N := 40) X hP hq hS k_47 (n := 3) rfl (by decide) rfl (by decide) (Nat.le_of_ble_eq_true rfl) (Nat.le_of_ble_eq_true rfl) dX1_init_23 (fun H hP hS => ?_)
  have hP : PT G B (cs0 ++ [.inr (1, [.ref (B + (q + 1)), .ref (B + (q + 2)), .null, .null]), .inl (cy 0, 40, .inl (fun _ => 0)), .inl (cy 1, 40, .inr (.inl (fun _ => 0))), .inl (cy 0, 40, .inl (fun _ => 0))]) H := hP
  refine e_put (ty := tyX1 2) (t' := [.inr (1, [.ref (B + (q + 1)), .ref (B + (q + 2)), .ref (B + (q + 3)), .null]), .inl (cy 0, 40, .inl (fun _ => 0)), .inl (cy 1, 40, .inr (.inl (fun _ => 0))), .inl (cy 0, 40, .inl (fun _ => 0))]) X hP hq hS 0 rfl inA1 rfl tyX1 tyX1_ok nmX1 2 (by decide) k_41 rfl (Or.inr ⟨rfl, hin, rfl⟩) (by decide +kernel) rfl rfl (Nat.le_of_ble_eq_true rfl) rfl dX1_init_25 (fun H locs hP hS => ?_)
  refine lv_aload_n hx hb dX1_init_28 rfl (lv_at hl 0 rfl) ?_
  refine lv_bipush (v := 40) hx hb dX1_init_29 (by decide) ?_
  refine e_newI (N := 40) X hP hq hS k_47 (n := 4) rfl (by decide) rfl (by decide) (Nat.le_of_ble_eq_true rfl) (Nat.le_of_ble_eq_true rfl) dX1_init_31 (fun H hP hS => ?_)
  have hP : PT G B (cs0 ++ [.inr (1, [.ref (B + (q + 1)), .ref (B + (q + 2)), .ref (B + (q + 3)), .null]), .inl (cy 0, 40, .inl (fun _ => 0)), .inl (cy 1, 40, .inr (.inl (fun _ => 0))), .inl (cy 0, 40, .inl (fun _ => 0)), .inl (cy 0, 40, .inl (fun _ => 0))]) H := hP
  refine e_put (ty := tyX1 3) (t' := [.inr (1, [.ref (B + (q + 1)), .ref (B + (q + 2)), .ref (B + (q + 3)), .ref (B + (q + 4))]), .inl (cy 0, 40, .inl (fun _ => 0)), .inl (cy 1, 40, .inr (.inl (fun _ => 0))), .inl (cy 0, 40, .inl (fun _ => 0)), .inl (cy 0, 40, .inl (fun _ => 0))]) X hP hq hS 0 rfl inA1 rfl tyX1 tyX1_ok nmX1 3 (by decide) k_44 rfl (Or.inr ⟨rfl, hin, rfl⟩) (by decide +kernel) rfl rfl (Nat.le_of_ble_eq_true rfl) rfl dX1_init_33 (fun H locs hP hS => ?_)
  refine lv_iconst (v := 0) hx hb dX1_init_36 (by decide) ?_
  refine lv_istore_n (lv' := [(1, .int 0), (0, .ref (B + (q + 0)))]) hx hb dX1_init_37 rfl hl (by decide) rfl (fun ls hl => ?_)
  have hP : PT G B (cs0 ++ [.inr (1, [.ref (B + (q + 1)), .ref (B + (q + 2)), .ref (B + (q + 3)), .ref (B + (q + 4))]), .inl (cy 0, 40, .inl (fun _ => 0)), .inl (cy 1, 40, .inr (.inl (fun _ => 0))), .inl (cy 0, 40, .inl (cF 0)), .inl (cy 0, 40, .inl (cF 0))]) H := by rw [← cF_0]; exact hP
  exact lp_X1_init hq X 41 0 (by decide) (by decide) _ _ _ hP hS (lv_sub hl [0, 1] rfl)
abbrev rmX5_init : Room := { frames := 2, cells := 9, slots := 764, locals := 61 }
set_option maxRecDepth 100000 in
set_option maxHeartbeats 4000000 in
theorem lp_X5_init {p : Program} {l : Launch} {e : Env} {s : State} {m : MethodId} {args : Array Value} {below : List Frame} {meth : Method} {c : Code} {G : va_G} {cy : Nat → ClassId} {B : Nat} {cs0 : List va_E} {q : Nat} (hq : cs0.length = q) (X : Cx p s m args meth c cX5_init RX5 2 none G cy) : ∀ (n k : Nat), k ≤ 40 → 41 ≤ k + n → ∀ (H : Heap) (locs : List Loc) (ls : Array Slot), PT G B (cs0 ++ [.inr (5, [.ref (B + (q + 1)), .ref (B + (q + 6)), .ref (B + (q + 7)), .ref (B + (q + 8)), .ref (B + (q + 9))]), .inr (1, [.ref (B + (q + 2)), .ref (B + (q + 3)), .ref (B + (q + 4)), .ref (B + (q + 5))]), .inl (cy 0, 40, .inl (fun _ => 0)), .inl (cy 1, 40, .inr (.inl (fun _ => 0))), .inl (cy 0, 40, .inl (cF 40)), .inl (cy 0, 40, .inl (cF 40)), .inl (cy 0, 40, .inl (fun _ => 0)), .inl (cy 0, 40, .inl (cF k)), .inl (cy 0, 480, .inl (fun _ => 0)), .inl (cy 0, 40, .inl (fun _ => 0))]) H → va_S (FB B) s.heap H locs → lv_has ls 2 [(1, .int (nI k)), (0, .ref (B + (q + 0)))] → W p l e rmX5_init s m args below meth c H locs 9 764 (MQ below (QvT G B (cs0 ++ [.inr (5, [.ref (B + (q + 1)), .ref (B + (q + 6)), .ref (B + (q + 7)), .ref (B + (q + 8)), .ref (B + (q + 9))]), .inr (1, [.ref (B + (q + 2)), .ref (B + (q + 3)), .ref (B + (q + 4)), .ref (B + (q + 5))]), .inl (cy 0, 40, .inl (fun _ => 0)), .inl (cy 1, 40, .inr (.inl (fun _ => 0))), .inl (cy 0, 40, .inl (cF 40)), .inl (cy 0, 40, .inl (cF 40)), .inl (cy 0, 40, .inl (fun _ => 0)), .inl (cy 0, 40, .inl (cF 40)), .inl (cy 0, 480, .inl (fun _ => 0)), .inl (cy 0, 40, .inl (fun _ => 0))])) args s 9 764 (FB B)) (F0 m 50 ls []) := by
  obtain ⟨hx, hb, hr, hml, hown, hts, hKn, hlk⟩ := id X
  intro n
  induction n with
  | zero => intro k h1 h2; exact absurd h2 (by omega)
  | succ n ih =>
    intro k hk hn H locs ls hP hS hl
    refine lv_iload_n hx hb dX5_init_50 rfl (lv_at hl 0 rfl) ?_
    refine lv_bipush (v := 40) hx hb dX5_init_51 (by decide) ?_
    refine lv_icmp_ge (tgt := 69) hx hb dX5_init_53 (by decide) (fun hc => ?_) (fun hc => ?_)
    · have hk2 : k = 40 := by
        rcases Nat.lt_or_ge k 40 with z | z
        · exact absurd hc (nI_ge (b := 40) z (by decide))
        · omega
      subst hk2
      exact e_vret X hP hS dX5_init_69
    · have hlt : k < 40 := by
        rcases Nat.lt_or_ge k 40 with z | z
        · exact z
        · exact absurd (nI_le (a := 40) (b := k) z (by omega)) hc
      refine lv_aload_n hx hb dX5_init_56 rfl (lv_at hl 1 rfl) ?_
      refine e_get X hP hq 0 rfl inA5 rfl 2 (by decide) k_53 rfl (v := .ref (B + (q + 7))) rfl dX5_init_57 ?_
      refine lv_iload_n hx hb dX5_init_60 rfl (lv_at hl 0 rfl) ?_
      refine lv_iconst (v := (-1)) hx hb dX5_init_61 (by decide) ?_
      refine e_iast (f := cF k) (n := 40) (t' := [.inr (5, [.ref (B + (q + 1)), .ref (B + (q + 6)), .ref (B + (q + 7)), .ref (B + (q + 8)), .ref (B + (q + 9))]), .inr (1, [.ref (B + (q + 2)), .ref (B + (q + 3)), .ref (B + (q + 4)), .ref (B + (q + 5))]), .inl (cy 0, 40, .inl (fun _ => 0)), .inl (cy 1, 40, .inr (.inl (fun _ => 0))), .inl (cy 0, 40, .inl (cF 40)), .inl (cy 0, 40, .inl (cF 40)), .inl (cy 0, 40, .inl (fun _ => 0)), .inl (cy 0, 40, .inl (cF (k + 1))), .inl (cy 0, 480, .inl (fun _ => 0)), .inl (cy 0, 40, .inl (fun _ => 0))]) X hP hq hS 7 rfl (inR_nI hlt (by decide)) (by rw [cF_s (by omega)]; rfl) dX5_init_62 (fun H locs hP hS => ?_)
      refine lv_iinc (v := nI (k + 1)) (lv' := [(1, .int (nI (k + 1))), (0, .ref (B + (q + 0)))]) hx hb dX5_init_63 hl (k := 0) rfl (by rw [← nI_1 k]; rfl) (by decide) rfl (fun ls hl => ?_)
      refine lv_goto (tgt := 50) hx hb dX5_init_66 (by decide) ?_
      exact ih (k + 1) (by omega) (by omega) _ _ _ hP hS hl
set_option maxRecDepth 100000 in
set_option maxHeartbeats 4000000 in
theorem c_X5_init {l : Launch} {G : va_G} {cy : Nat → ClassId} {B : Nat} {cs0 : List va_E} {q : Nat} (hq : cs0.length = q) : Met l yX5_init (wsU yX5_init cX5_init 2 none) rmX5_init (va_Pc [.ref (B + q)] (PUT G B cy (cs0 ++ [.inr (5, [.null, .null, .null, .null, .null])]))) (QvT G B (cs0 ++ [.inr (5, [.ref (B + (q + 1)), .ref (B + (q + 6)), .ref (B + (q + 7)), .ref (B + (q + 8)), .ref (B + (q + 9))]), .inr (1, [.ref (B + (q + 2)), .ref (B + (q + 3)), .ref (B + (q + 4)), .ref (B + (q + 5))]), .inl (cy 0, 40, .inl (fun _ => 0)), .inl (cy 1, 40, .inr (.inl (fun _ => 0))), .inl (cy 0, 40, .inl (cF 40)), .inl (cy 0, 40, .inl (cF 40)), .inl (cy 0, 40, .inl (fun _ => 0)), .inl (cy 0, 40, .inl (cF 40)), .inl (cy 0, 480, .inl (fun _ => 0)), .inl (cy 0, 40, .inl (fun _ => 0))])) 9 764 (FB B) := by
  refine e_met (by decide +kernel) RX5 rfl rfl (Nat.le_of_ble_eq_true rfl) ?_
  intro p e s m args below meth c ls X hO hin hP hl
  have hl : lv_has ls 2 [(0, .ref (B + (q + 0)))] := hl
  have hS : va_S (FB B) s.heap s.heap [] := va_S.rf
  obtain ⟨hx, hb, hr, hml, hown, hts, hKn, hlk⟩ := id X
  have hP : ∃ H, H = s.heap ∧ PT G B (cs0 ++ [.inr (5, [.null, .null, .null, .null, .null])]) H := ⟨_, rfl, hP⟩
  obtain ⟨H, eH, hP⟩ := hP
  have hS : va_S (FB B) s.heap H [] := by rw [eH]; exact hS
  rw [← eH]
  rw [← eH] at hS
  rw [eH] at hS ⊢
  rw [eH] at hP
  refine lv_aload_n hx hb dX5_init_0 rfl (lv_at hl 0 rfl) ?_
  refine W.objInit hx hb hown (hts _ k_26) (hts _ k_19) (hts _ k_20) rfl (by rw [hml]; exact hl.1) rfl dX5_init_1 (Nat.le_of_ble_eq_true rfl) (Nat.le_of_ble_eq_true rfl) ?_
  refine W.eq (g2 := F0 m 4 ls []) rfl ?_
  refine lv_aload_n hx hb dX5_init_4 rfl (lv_at hl 0 rfl) ?_
  refine e_new (C := RX1) (T := TX1) (N := 4) (ci := 1) X hP hq hS inA1 tyX1 tyX1_ok k_27 k_28 k_3 rfl [.null, .null, .null, .null] (fun j hj => by rcases (show j = 0 ∨ j = 1 ∨ j = 2 ∨ j = 3 by omega) with rfl | rfl | rfl | rfl <;> rfl) (n := 1) rfl (Nat.le_of_ble_eq_true rfl) (Nat.le_of_ble_eq_true rfl) dX5_init_5 (fun H hP hS => ?_)
  have hP : PT G B (cs0 ++ [.inr (5, [.null, .null, .null, .null, .null]), .inr (1, [.null, .null, .null, .null])]) H := hP
  refine lv_dup hx hb dX5_init_8 rfl ?_
  have hq2 : (cs0 ++ ([.inr (5, [.null, .null, .null, .null, .null])] : List va_E)).length = q + 1 := by rw [List.length_append, hq]; rfl
  have hP : PT G B ((cs0 ++ ([.inr (5, [.null, .null, .null, .null, .null])] : List va_E)) ++ [.inr (1, [.null, .null, .null, .null])]) H := by rw [List.append_assoc]; exact hP
  refine e_ini X hO hP hS (c_X1_init hq2) k_29 k_30 k_3 k_31 rfl hd_X1_init ⟨⟨rfl, rfl⟩, Nat.le_of_ble_eq_true rfl, Nat.le_of_ble_eq_true rfl⟩ (As := []) (rest := [.ref (B + (q + 1)), .ref (B + (q + 0))]) rfl hl.1 rfl (Nat.le_of_ble_eq_true rfl) dX5_init_9 ⟨Nat.le_of_ble_eq_true rfl, Nat.le_of_ble_eq_true rfl⟩ (fun H locs hP hS => ?_)
  rw [List.append_assoc] at hP
  have hP : PT G B (cs0 ++ [.inr (5, [.null, .null, .null, .null, .null]), .inr (1, [.ref (B + (q + 2)), .ref (B + (q + 3)), .ref (B + (q + 4)), .ref (B + (q + 5))]), .inl (cy 0, 40, .inl (fun _ => 0)), .inl (cy 1, 40, .inr (.inl (fun _ => 0))), .inl (cy 0, 40, .inl (cF 40)), .inl (cy 0, 40, .inl (cF 40))]) H := hP
  refine e_put (ty := tyX5 0) (t' := [.inr (5, [.ref (B + (q + 1)), .null, .null, .null, .null]), .inr (1, [.ref (B + (q + 2)), .ref (B + (q + 3)), .ref (B + (q + 4)), .ref (B + (q + 5))]), .inl (cy 0, 40, .inl (fun _ => 0)), .inl (cy 1, 40, .inr (.inl (fun _ => 0))), .inl (cy 0, 40, .inl (cF 40)), .inl (cy 0, 40, .inl (cF 40))]) X hP hq hS 0 rfl inA5 rfl tyX5 tyX5_ok nmX5 0 (by decide) k_49 rfl (Or.inr ⟨rfl, hin, rfl⟩) (by decide +kernel) rfl rfl (Nat.le_of_ble_eq_true rfl) rfl dX5_init_12 (fun H locs hP hS => ?_)
  refine lv_aload_n hx hb dX5_init_15 rfl (lv_at hl 0 rfl) ?_
  refine lv_bipush (v := 40) hx hb dX5_init_16 (by decide) ?_
  refine e_newI (N := 40) X hP hq hS k_47 (n := 6) rfl (by decide) rfl (by decide) (Nat.le_of_ble_eq_true rfl) (Nat.le_of_ble_eq_true rfl) dX5_init_18 (fun H hP hS => ?_)
  have hP : PT G B (cs0 ++ [.inr (5, [.ref (B + (q + 1)), .null, .null, .null, .null]), .inr (1, [.ref (B + (q + 2)), .ref (B + (q + 3)), .ref (B + (q + 4)), .ref (B + (q + 5))]), .inl (cy 0, 40, .inl (fun _ => 0)), .inl (cy 1, 40, .inr (.inl (fun _ => 0))), .inl (cy 0, 40, .inl (cF 40)), .inl (cy 0, 40, .inl (cF 40)), .inl (cy 0, 40, .inl (fun _ => 0))]) H := hP
  refine e_put (ty := tyX5 1) (t' := [.inr (5, [.ref (B + (q + 1)), .ref (B + (q + 6)), .null, .null, .null]), .inr (1, [.ref (B + (q + 2)), .ref (B + (q + 3)), .ref (B + (q + 4)), .ref (B + (q + 5))]), .inl (cy 0, 40, .inl (fun _ => 0)), .inl (cy 1, 40, .inr (.inl (fun _ => 0))), .inl (cy 0, 40, .inl (cF 40)), .inl (cy 0, 40, .inl (cF 40)), .inl (cy 0, 40, .inl (fun _ => 0))]) X hP hq hS 0 rfl inA5 rfl tyX5 tyX5_ok nmX5 1 (by decide) k_51 rfl (Or.inr ⟨rfl, hin, rfl⟩) (by decide +kernel) rfl rfl (Nat.le_of_ble_eq_true rfl) rfl dX5_init_20 (fun H locs hP hS => ?_)
  refine lv_aload_n hx hb dX5_init_23 rfl (lv_at hl 0 rfl) ?_
  refine lv_bipush (v := 40) hx hb dX5_init_24 (by decide) ?_
  refine e_newI (N := 40) X hP hq hS k_47 (n := 7) rfl (by decide) rfl (by decide) (Nat.le_of_ble_eq_true rfl) (Nat.le_of_ble_eq_true rfl) dX5_init_26 (fun H hP hS => ?_)
  have hP : PT G B (cs0 ++ [.inr (5, [.ref (B + (q + 1)), .ref (B + (q + 6)), .null, .null, .null]), .inr (1, [.ref (B + (q + 2)), .ref (B + (q + 3)), .ref (B + (q + 4)), .ref (B + (q + 5))]), .inl (cy 0, 40, .inl (fun _ => 0)), .inl (cy 1, 40, .inr (.inl (fun _ => 0))), .inl (cy 0, 40, .inl (cF 40)), .inl (cy 0, 40, .inl (cF 40)), .inl (cy 0, 40, .inl (fun _ => 0)), .inl (cy 0, 40, .inl (fun _ => 0))]) H := hP
  refine e_put (ty := tyX5 2) (t' := [.inr (5, [.ref (B + (q + 1)), .ref (B + (q + 6)), .ref (B + (q + 7)), .null, .null]), .inr (1, [.ref (B + (q + 2)), .ref (B + (q + 3)), .ref (B + (q + 4)), .ref (B + (q + 5))]), .inl (cy 0, 40, .inl (fun _ => 0)), .inl (cy 1, 40, .inr (.inl (fun _ => 0))), .inl (cy 0, 40, .inl (cF 40)), .inl (cy 0, 40, .inl (cF 40)), .inl (cy 0, 40, .inl (fun _ => 0)), .inl (cy 0, 40, .inl (fun _ => 0))]) X hP hq hS 0 rfl inA5 rfl tyX5 tyX5_ok nmX5 2 (by decide) k_53 rfl (Or.inr ⟨rfl, hin, rfl⟩) (by decide +kernel) rfl rfl (Nat.le_of_ble_eq_true rfl) rfl dX5_init_28 (fun H locs hP hS => ?_)
  refine lv_aload_n hx hb dX5_init_31 rfl (lv_at hl 0 rfl) ?_
  refine lv_sipush (v := 480) hx hb dX5_init_32 (by decide) ?_
  refine e_newI (N := 480) X hP hq hS k_47 (n := 8) rfl (by decide) rfl (by decide) (Nat.le_of_ble_eq_true rfl) (Nat.le_of_ble_eq_true rfl) dX5_init_35 (fun H hP hS => ?_)
  have hP : PT G B (cs0 ++ [.inr (5, [.ref (B + (q + 1)), .ref (B + (q + 6)), .ref (B + (q + 7)), .null, .null]), .inr (1, [.ref (B + (q + 2)), .ref (B + (q + 3)), .ref (B + (q + 4)), .ref (B + (q + 5))]), .inl (cy 0, 40, .inl (fun _ => 0)), .inl (cy 1, 40, .inr (.inl (fun _ => 0))), .inl (cy 0, 40, .inl (cF 40)), .inl (cy 0, 40, .inl (cF 40)), .inl (cy 0, 40, .inl (fun _ => 0)), .inl (cy 0, 40, .inl (fun _ => 0)), .inl (cy 0, 480, .inl (fun _ => 0))]) H := hP
  refine e_put (ty := tyX5 3) (t' := [.inr (5, [.ref (B + (q + 1)), .ref (B + (q + 6)), .ref (B + (q + 7)), .ref (B + (q + 8)), .null]), .inr (1, [.ref (B + (q + 2)), .ref (B + (q + 3)), .ref (B + (q + 4)), .ref (B + (q + 5))]), .inl (cy 0, 40, .inl (fun _ => 0)), .inl (cy 1, 40, .inr (.inl (fun _ => 0))), .inl (cy 0, 40, .inl (cF 40)), .inl (cy 0, 40, .inl (cF 40)), .inl (cy 0, 40, .inl (fun _ => 0)), .inl (cy 0, 40, .inl (fun _ => 0)), .inl (cy 0, 480, .inl (fun _ => 0))]) X hP hq hS 0 rfl inA5 rfl tyX5 tyX5_ok nmX5 3 (by decide) k_55 rfl (Or.inr ⟨rfl, hin, rfl⟩) (by decide +kernel) rfl rfl (Nat.le_of_ble_eq_true rfl) rfl dX5_init_37 (fun H locs hP hS => ?_)
  refine lv_aload_n hx hb dX5_init_40 rfl (lv_at hl 0 rfl) ?_
  refine lv_bipush (v := 40) hx hb dX5_init_41 (by decide) ?_
  refine e_newI (N := 40) X hP hq hS k_47 (n := 9) rfl (by decide) rfl (by decide) (Nat.le_of_ble_eq_true rfl) (Nat.le_of_ble_eq_true rfl) dX5_init_43 (fun H hP hS => ?_)
  have hP : PT G B (cs0 ++ [.inr (5, [.ref (B + (q + 1)), .ref (B + (q + 6)), .ref (B + (q + 7)), .ref (B + (q + 8)), .null]), .inr (1, [.ref (B + (q + 2)), .ref (B + (q + 3)), .ref (B + (q + 4)), .ref (B + (q + 5))]), .inl (cy 0, 40, .inl (fun _ => 0)), .inl (cy 1, 40, .inr (.inl (fun _ => 0))), .inl (cy 0, 40, .inl (cF 40)), .inl (cy 0, 40, .inl (cF 40)), .inl (cy 0, 40, .inl (fun _ => 0)), .inl (cy 0, 40, .inl (fun _ => 0)), .inl (cy 0, 480, .inl (fun _ => 0)), .inl (cy 0, 40, .inl (fun _ => 0))]) H := hP
  refine e_put (ty := tyX5 4) (t' := [.inr (5, [.ref (B + (q + 1)), .ref (B + (q + 6)), .ref (B + (q + 7)), .ref (B + (q + 8)), .ref (B + (q + 9))]), .inr (1, [.ref (B + (q + 2)), .ref (B + (q + 3)), .ref (B + (q + 4)), .ref (B + (q + 5))]), .inl (cy 0, 40, .inl (fun _ => 0)), .inl (cy 1, 40, .inr (.inl (fun _ => 0))), .inl (cy 0, 40, .inl (cF 40)), .inl (cy 0, 40, .inl (cF 40)), .inl (cy 0, 40, .inl (fun _ => 0)), .inl (cy 0, 40, .inl (fun _ => 0)), .inl (cy 0, 480, .inl (fun _ => 0)), .inl (cy 0, 40, .inl (fun _ => 0))]) X hP hq hS 0 rfl inA5 rfl tyX5 tyX5_ok nmX5 4 (by decide) k_57 rfl (Or.inr ⟨rfl, hin, rfl⟩) (by decide +kernel) rfl rfl (Nat.le_of_ble_eq_true rfl) rfl dX5_init_45 (fun H locs hP hS => ?_)
  refine lv_iconst (v := 0) hx hb dX5_init_48 (by decide) ?_
  refine lv_istore_n (lv' := [(1, .int 0), (0, .ref (B + (q + 0)))]) hx hb dX5_init_49 rfl hl (by decide) rfl (fun ls hl => ?_)
  have hP : PT G B (cs0 ++ [.inr (5, [.ref (B + (q + 1)), .ref (B + (q + 6)), .ref (B + (q + 7)), .ref (B + (q + 8)), .ref (B + (q + 9))]), .inr (1, [.ref (B + (q + 2)), .ref (B + (q + 3)), .ref (B + (q + 4)), .ref (B + (q + 5))]), .inl (cy 0, 40, .inl (fun _ => 0)), .inl (cy 1, 40, .inr (.inl (fun _ => 0))), .inl (cy 0, 40, .inl (cF 40)), .inl (cy 0, 40, .inl (cF 40)), .inl (cy 0, 40, .inl (fun _ => 0)), .inl (cy 0, 40, .inl (cF 0)), .inl (cy 0, 480, .inl (fun _ => 0)), .inl (cy 0, 40, .inl (fun _ => 0))]) H := by rw [← cF_0]; exact hP
  exact lp_X5_init hq X 41 0 (by decide) (by decide) _ _ _ hP hS (lv_sub hl [0, 1] rfl)
abbrev rmX7_init : Room := { frames := 1, cells := 5, slots := 1184, locals := 40 }
set_option maxRecDepth 100000 in
set_option maxHeartbeats 4000000 in
theorem c_X7_init {l : Launch} {G : va_G} {cy : Nat → ClassId} {B : Nat} {cs0 : List va_E} {q : Nat} (hq : cs0.length = q) : Met l yX7_init (wsU yX7_init cX7_init 1 none) rmX7_init (va_Pc [.ref (B + q)] (PUT G B cy (cs0 ++ [.inr (7, [.null, .null, .null, .null, .null])]))) (QvT G B (cs0 ++ [.inr (7, [.ref (B + (q + 1)), .ref (B + (q + 2)), .ref (B + (q + 3)), .ref (B + (q + 4)), .ref (B + (q + 5))]), .inl (cy 0, 16, .inl (fun _ => 0)), .inl (cy 0, 16, .inl (fun _ => 0)), .inl (cy 0, 384, .inl (fun _ => 0)), .inl (cy 0, 384, .inl (fun _ => 0)), .inl (cy 0, 384, .inl (fun _ => 0))])) 5 1184 (FB B) := by
  refine e_met (by decide +kernel) RX7 rfl rfl (Nat.le_of_ble_eq_true rfl) ?_
  intro p e s m args below meth c ls X hO hin hP hl
  have hl : lv_has ls 1 [(0, .ref (B + (q + 0)))] := hl
  have hS : va_S (FB B) s.heap s.heap [] := va_S.rf
  obtain ⟨hx, hb, hr, hml, hown, hts, hKn, hlk⟩ := id X
  have hP : ∃ H, H = s.heap ∧ PT G B (cs0 ++ [.inr (7, [.null, .null, .null, .null, .null])]) H := ⟨_, rfl, hP⟩
  obtain ⟨H, eH, hP⟩ := hP
  have hS : va_S (FB B) s.heap H [] := by rw [eH]; exact hS
  rw [← eH]
  rw [← eH] at hS
  rw [eH] at hS ⊢
  rw [eH] at hP
  refine lv_aload_n hx hb dX7_init_0 rfl (lv_at hl 0 rfl) ?_
  refine W.objInit hx hb hown (hts _ k_64) (hts _ k_19) (hts _ k_20) rfl (by rw [hml]; exact hl.1) rfl dX7_init_1 (Nat.le_of_ble_eq_true rfl) (Nat.le_of_ble_eq_true rfl) ?_
  refine W.eq (g2 := F0 m 4 ls []) rfl ?_
  refine lv_aload_n hx hb dX7_init_4 rfl (lv_at hl 0 rfl) ?_
  refine lv_bipush (v := 16) hx hb dX7_init_5 (by decide) ?_
  refine e_newI (N := 16) X hP hq hS k_47 (n := 1) rfl (by decide) rfl (by decide) (Nat.le_of_ble_eq_true rfl) (Nat.le_of_ble_eq_true rfl) dX7_init_7 (fun H hP hS => ?_)
  have hP : PT G B (cs0 ++ [.inr (7, [.null, .null, .null, .null, .null]), .inl (cy 0, 16, .inl (fun _ => 0))]) H := hP
  refine e_put (ty := tyX7 0) (t' := [.inr (7, [.ref (B + (q + 1)), .null, .null, .null, .null]), .inl (cy 0, 16, .inl (fun _ => 0))]) X hP hq hS 0 rfl inA7 rfl tyX7 tyX7_ok nmX7 0 (by decide) k_65 rfl (Or.inr ⟨rfl, hin, rfl⟩) (by decide +kernel) rfl rfl (Nat.le_of_ble_eq_true rfl) rfl dX7_init_9 (fun H locs hP hS => ?_)
  refine lv_aload_n hx hb dX7_init_12 rfl (lv_at hl 0 rfl) ?_
  refine lv_bipush (v := 16) hx hb dX7_init_13 (by decide) ?_
  refine e_newI (N := 16) X hP hq hS k_47 (n := 2) rfl (by decide) rfl (by decide) (Nat.le_of_ble_eq_true rfl) (Nat.le_of_ble_eq_true rfl) dX7_init_15 (fun H hP hS => ?_)
  have hP : PT G B (cs0 ++ [.inr (7, [.ref (B + (q + 1)), .null, .null, .null, .null]), .inl (cy 0, 16, .inl (fun _ => 0)), .inl (cy 0, 16, .inl (fun _ => 0))]) H := hP
  refine e_put (ty := tyX7 1) (t' := [.inr (7, [.ref (B + (q + 1)), .ref (B + (q + 2)), .null, .null, .null]), .inl (cy 0, 16, .inl (fun _ => 0)), .inl (cy 0, 16, .inl (fun _ => 0))]) X hP hq hS 0 rfl inA7 rfl tyX7 tyX7_ok nmX7 1 (by decide) k_68 rfl (Or.inr ⟨rfl, hin, rfl⟩) (by decide +kernel) rfl rfl (Nat.le_of_ble_eq_true rfl) rfl dX7_init_17 (fun H locs hP hS => ?_)
  refine lv_aload_n hx hb dX7_init_20 rfl (lv_at hl 0 rfl) ?_
  refine lv_sipush (v := 384) hx hb dX7_init_21 (by decide) ?_
  refine e_newI (N := 384) X hP hq hS k_47 (n := 3) rfl (by decide) rfl (by decide) (Nat.le_of_ble_eq_true rfl) (Nat.le_of_ble_eq_true rfl) dX7_init_24 (fun H hP hS => ?_)
  have hP : PT G B (cs0 ++ [.inr (7, [.ref (B + (q + 1)), .ref (B + (q + 2)), .null, .null, .null]), .inl (cy 0, 16, .inl (fun _ => 0)), .inl (cy 0, 16, .inl (fun _ => 0)), .inl (cy 0, 384, .inl (fun _ => 0))]) H := hP
  refine e_put (ty := tyX7 2) (t' := [.inr (7, [.ref (B + (q + 1)), .ref (B + (q + 2)), .ref (B + (q + 3)), .null, .null]), .inl (cy 0, 16, .inl (fun _ => 0)), .inl (cy 0, 16, .inl (fun _ => 0)), .inl (cy 0, 384, .inl (fun _ => 0))]) X hP hq hS 0 rfl inA7 rfl tyX7 tyX7_ok nmX7 2 (by decide) k_70 rfl (Or.inr ⟨rfl, hin, rfl⟩) (by decide +kernel) rfl rfl (Nat.le_of_ble_eq_true rfl) rfl dX7_init_26 (fun H locs hP hS => ?_)
  refine lv_aload_n hx hb dX7_init_29 rfl (lv_at hl 0 rfl) ?_
  refine lv_sipush (v := 384) hx hb dX7_init_30 (by decide) ?_
  refine e_newI (N := 384) X hP hq hS k_47 (n := 4) rfl (by decide) rfl (by decide) (Nat.le_of_ble_eq_true rfl) (Nat.le_of_ble_eq_true rfl) dX7_init_33 (fun H hP hS => ?_)
  have hP : PT G B (cs0 ++ [.inr (7, [.ref (B + (q + 1)), .ref (B + (q + 2)), .ref (B + (q + 3)), .null, .null]), .inl (cy 0, 16, .inl (fun _ => 0)), .inl (cy 0, 16, .inl (fun _ => 0)), .inl (cy 0, 384, .inl (fun _ => 0)), .inl (cy 0, 384, .inl (fun _ => 0))]) H := hP
  refine e_put (ty := tyX7 3) (t' := [.inr (7, [.ref (B + (q + 1)), .ref (B + (q + 2)), .ref (B + (q + 3)), .ref (B + (q + 4)), .null]), .inl (cy 0, 16, .inl (fun _ => 0)), .inl (cy 0, 16, .inl (fun _ => 0)), .inl (cy 0, 384, .inl (fun _ => 0)), .inl (cy 0, 384, .inl (fun _ => 0))]) X hP hq hS 0 rfl inA7 rfl tyX7 tyX7_ok nmX7 3 (by decide) k_72 rfl (Or.inr ⟨rfl, hin, rfl⟩) (by decide +kernel) rfl rfl (Nat.le_of_ble_eq_true rfl) rfl dX7_init_35 (fun H locs hP hS => ?_)
  refine lv_aload_n hx hb dX7_init_38 rfl (lv_at hl 0 rfl) ?_
  refine lv_sipush (v := 384) hx hb dX7_init_39 (by decide) ?_
  refine e_newI (N := 384) X hP hq hS k_47 (n := 5) rfl (by decide) rfl (by decide) (Nat.le_of_ble_eq_true rfl) (Nat.le_of_ble_eq_true rfl) dX7_init_42 (fun H hP hS => ?_)
  have hP : PT G B (cs0 ++ [.inr (7, [.ref (B + (q + 1)), .ref (B + (q + 2)), .ref (B + (q + 3)), .ref (B + (q + 4)), .null]), .inl (cy 0, 16, .inl (fun _ => 0)), .inl (cy 0, 16, .inl (fun _ => 0)), .inl (cy 0, 384, .inl (fun _ => 0)), .inl (cy 0, 384, .inl (fun _ => 0)), .inl (cy 0, 384, .inl (fun _ => 0))]) H := hP
  refine e_put (ty := tyX7 4) (t' := [.inr (7, [.ref (B + (q + 1)), .ref (B + (q + 2)), .ref (B + (q + 3)), .ref (B + (q + 4)), .ref (B + (q + 5))]), .inl (cy 0, 16, .inl (fun _ => 0)), .inl (cy 0, 16, .inl (fun _ => 0)), .inl (cy 0, 384, .inl (fun _ => 0)), .inl (cy 0, 384, .inl (fun _ => 0)), .inl (cy 0, 384, .inl (fun _ => 0))]) X hP hq hS 0 rfl inA7 rfl tyX7 tyX7_ok nmX7 4 (by decide) k_74 rfl (Or.inr ⟨rfl, hin, rfl⟩) (by decide +kernel) rfl rfl (Nat.le_of_ble_eq_true rfl) rfl dX7_init_44 (fun H locs hP hS => ?_)
  exact e_vret X hP hS dX7_init_47
abbrev rmX4_init : Room := { frames := 1, cells := 4, slots := 40, locals := 40 }
set_option maxRecDepth 100000 in
set_option maxHeartbeats 4000000 in
theorem c_X4_init {l : Launch} {G : va_G} {cy : Nat → ClassId} {B : Nat} {cs0 : List va_E} {q : Nat} (hq : cs0.length = q) : Met l yX4_init (wsU yX4_init cX4_init 1 none) rmX4_init (va_Pc [.ref (B + q)] (PUT G B cy (cs0 ++ [.inr (4, [.null, .null, .null, .null, .int 0])]))) (QvT G B (cs0 ++ [.inr (4, [.ref (B + (q + 1)), .ref (B + (q + 2)), .ref (B + (q + 3)), .ref (B + (q + 4)), .int 0]), .inl (cy 0, 10, .inl (fun _ => 0)), .inl (cy 0, 10, .inl (fun _ => 0)), .inl (cy 0, 10, .inl (fun _ => 0)), .inl (cy 1, 10, .inr (.inl (fun _ => 0)))])) 4 40 (FB B) := by
  refine e_met (by decide +kernel) RX4 rfl rfl (Nat.le_of_ble_eq_true rfl) ?_
  intro p e s m args below meth c ls X hO hin hP hl
  have hl : lv_has ls 1 [(0, .ref (B + (q + 0)))] := hl
  have hS : va_S (FB B) s.heap s.heap [] := va_S.rf
  obtain ⟨hx, hb, hr, hml, hown, hts, hKn, hlk⟩ := id X
  have hP : ∃ H, H = s.heap ∧ PT G B (cs0 ++ [.inr (4, [.null, .null, .null, .null, .int 0])]) H := ⟨_, rfl, hP⟩
  obtain ⟨H, eH, hP⟩ := hP
  have hS : va_S (FB B) s.heap H [] := by rw [eH]; exact hS
  rw [← eH]
  rw [← eH] at hS
  rw [eH] at hS ⊢
  rw [eH] at hP
  refine lv_aload_n hx hb dX4_init_0 rfl (lv_at hl 0 rfl) ?_
  refine W.objInit hx hb hown (hts _ k_81) (hts _ k_19) (hts _ k_20) rfl (by rw [hml]; exact hl.1) rfl dX4_init_1 (Nat.le_of_ble_eq_true rfl) (Nat.le_of_ble_eq_true rfl) ?_
  refine W.eq (g2 := F0 m 4 ls []) rfl ?_
  refine lv_aload_n hx hb dX4_init_4 rfl (lv_at hl 0 rfl) ?_
  refine lv_bipush (v := 10) hx hb dX4_init_5 (by decide) ?_
  refine e_newI (N := 10) X hP hq hS k_47 (n := 1) rfl (by decide) rfl (by decide) (Nat.le_of_ble_eq_true rfl) (Nat.le_of_ble_eq_true rfl) dX4_init_7 (fun H hP hS => ?_)
  have hP : PT G B (cs0 ++ [.inr (4, [.null, .null, .null, .null, .int 0]), .inl (cy 0, 10, .inl (fun _ => 0))]) H := hP
  refine e_put (ty := tyX4 0) (t' := [.inr (4, [.ref (B + (q + 1)), .null, .null, .null, .int 0]), .inl (cy 0, 10, .inl (fun _ => 0))]) X hP hq hS 0 rfl inA4 rfl tyX4 tyX4_ok nmX4 0 (by decide) k_82 rfl (Or.inr ⟨rfl, hin, rfl⟩) (by decide +kernel) rfl rfl (Nat.le_of_ble_eq_true rfl) rfl dX4_init_9 (fun H locs hP hS => ?_)
  refine lv_aload_n hx hb dX4_init_12 rfl (lv_at hl 0 rfl) ?_
  refine lv_bipush (v := 10) hx hb dX4_init_13 (by decide) ?_
  refine e_newI (N := 10) X hP hq hS k_47 (n := 2) rfl (by decide) rfl (by decide) (Nat.le_of_ble_eq_true rfl) (Nat.le_of_ble_eq_true rfl) dX4_init_15 (fun H hP hS => ?_)
  have hP : PT G B (cs0 ++ [.inr (4, [.ref (B + (q + 1)), .null, .null, .null, .int 0]), .inl (cy 0, 10, .inl (fun _ => 0)), .inl (cy 0, 10, .inl (fun _ => 0))]) H := hP
  refine e_put (ty := tyX4 1) (t' := [.inr (4, [.ref (B + (q + 1)), .ref (B + (q + 2)), .null, .null, .int 0]), .inl (cy 0, 10, .inl (fun _ => 0)), .inl (cy 0, 10, .inl (fun _ => 0))]) X hP hq hS 0 rfl inA4 rfl tyX4 tyX4_ok nmX4 1 (by decide) k_83 rfl (Or.inr ⟨rfl, hin, rfl⟩) (by decide +kernel) rfl rfl (Nat.le_of_ble_eq_true rfl) rfl dX4_init_17 (fun H locs hP hS => ?_)
  refine lv_aload_n hx hb dX4_init_20 rfl (lv_at hl 0 rfl) ?_
  refine lv_bipush (v := 10) hx hb dX4_init_21 (by decide) ?_
  refine e_newI (N := 10) X hP hq hS k_47 (n := 3) rfl (by decide) rfl (by decide) (Nat.le_of_ble_eq_true rfl) (Nat.le_of_ble_eq_true rfl) dX4_init_23 (fun H hP hS => ?_)
  have hP : PT G B (cs0 ++ [.inr (4, [.ref (B + (q + 1)), .ref (B + (q + 2)), .null, .null, .int 0]), .inl (cy 0, 10, .inl (fun _ => 0)), .inl (cy 0, 10, .inl (fun _ => 0)), .inl (cy 0, 10, .inl (fun _ => 0))]) H := hP
  refine e_put (ty := tyX4 2) (t' := [.inr (4, [.ref (B + (q + 1)), .ref (B + (q + 2)), .ref (B + (q + 3)), .null, .int 0]), .inl (cy 0, 10, .inl (fun _ => 0)), .inl (cy 0, 10, .inl (fun _ => 0)), .inl (cy 0, 10, .inl (fun _ => 0))]) X hP hq hS 0 rfl inA4 rfl tyX4 tyX4_ok nmX4 2 (by decide) k_84 rfl (Or.inr ⟨rfl, hin, rfl⟩) (by decide +kernel) rfl rfl (Nat.le_of_ble_eq_true rfl) rfl dX4_init_25 (fun H locs hP hS => ?_)
  refine lv_aload_n hx hb dX4_init_28 rfl (lv_at hl 0 rfl) ?_
  refine lv_bipush (v := 10) hx hb dX4_init_29 (by decide) ?_
  refine e_newL (N := 10) X hP hq hS k_48 (n := 4) rfl (by decide) rfl (by decide) (Nat.le_of_ble_eq_true rfl) (Nat.le_of_ble_eq_true rfl) dX4_init_31 (fun H hP hS => ?_)
  have hP : PT G B (cs0 ++ [.inr (4, [.ref (B + (q + 1)), .ref (B + (q + 2)), .ref (B + (q + 3)), .null, .int 0]), .inl (cy 0, 10, .inl (fun _ => 0)), .inl (cy 0, 10, .inl (fun _ => 0)), .inl (cy 0, 10, .inl (fun _ => 0)), .inl (cy 1, 10, .inr (.inl (fun _ => 0)))]) H := hP
  refine e_put (ty := tyX4 3) (t' := [.inr (4, [.ref (B + (q + 1)), .ref (B + (q + 2)), .ref (B + (q + 3)), .ref (B + (q + 4)), .int 0]), .inl (cy 0, 10, .inl (fun _ => 0)), .inl (cy 0, 10, .inl (fun _ => 0)), .inl (cy 0, 10, .inl (fun _ => 0)), .inl (cy 1, 10, .inr (.inl (fun _ => 0)))]) X hP hq hS 0 rfl inA4 rfl tyX4 tyX4_ok nmX4 3 (by decide) k_85 rfl (Or.inr ⟨rfl, hin, rfl⟩) (by decide +kernel) rfl rfl (Nat.le_of_ble_eq_true rfl) rfl dX4_init_33 (fun H locs hP hS => ?_)
  exact e_vret X hP hS dX4_init_36
abbrev rmX3_init : Room := { frames := 1, cells := 3, slots := 120, locals := 40 }
set_option maxRecDepth 100000 in
set_option maxHeartbeats 4000000 in
theorem c_X3_init {l : Launch} {G : va_G} {cy : Nat → ClassId} {B : Nat} {cs0 : List va_E} {q : Nat} (hq : cs0.length = q) : Met l yX3_init (wsU yX3_init cX3_init 1 none) rmX3_init (va_Pc [.ref (B + q)] (PUT G B cy (cs0 ++ [.inr (3, [.null, .null, .null, .int 0])]))) (QvT G B (cs0 ++ [.inr (3, [.ref (B + (q + 1)), .ref (B + (q + 2)), .ref (B + (q + 3)), .int 0]), .inl (cy 0, 40, .inl (fun _ => 0)), .inl (cy 0, 40, .inl (fun _ => 0)), .inl (cy 1, 40, .inr (.inl (fun _ => 0)))])) 3 120 (FB B) := by
  refine e_met (by decide +kernel) RX3 rfl rfl (Nat.le_of_ble_eq_true rfl) ?_
  intro p e s m args below meth c ls X hO hin hP hl
  have hl : lv_has ls 1 [(0, .ref (B + (q + 0)))] := hl
  have hS : va_S (FB B) s.heap s.heap [] := va_S.rf
  obtain ⟨hx, hb, hr, hml, hown, hts, hKn, hlk⟩ := id X
  have hP : ∃ H, H = s.heap ∧ PT G B (cs0 ++ [.inr (3, [.null, .null, .null, .int 0])]) H := ⟨_, rfl, hP⟩
  obtain ⟨H, eH, hP⟩ := hP
  have hS : va_S (FB B) s.heap H [] := by rw [eH]; exact hS
  rw [← eH]
  rw [← eH] at hS
  rw [eH] at hS ⊢
  rw [eH] at hP
  refine lv_aload_n hx hb dX3_init_0 rfl (lv_at hl 0 rfl) ?_
  refine W.objInit hx hb hown (hts _ k_93) (hts _ k_19) (hts _ k_20) rfl (by rw [hml]; exact hl.1) rfl dX3_init_1 (Nat.le_of_ble_eq_true rfl) (Nat.le_of_ble_eq_true rfl) ?_
  refine W.eq (g2 := F0 m 4 ls []) rfl ?_
  refine lv_aload_n hx hb dX3_init_4 rfl (lv_at hl 0 rfl) ?_
  refine lv_bipush (v := 40) hx hb dX3_init_5 (by decide) ?_
  refine e_newI (N := 40) X hP hq hS k_47 (n := 1) rfl (by decide) rfl (by decide) (Nat.le_of_ble_eq_true rfl) (Nat.le_of_ble_eq_true rfl) dX3_init_7 (fun H hP hS => ?_)
  have hP : PT G B (cs0 ++ [.inr (3, [.null, .null, .null, .int 0]), .inl (cy 0, 40, .inl (fun _ => 0))]) H := hP
  refine e_put (ty := tyX3 0) (t' := [.inr (3, [.ref (B + (q + 1)), .null, .null, .int 0]), .inl (cy 0, 40, .inl (fun _ => 0))]) X hP hq hS 0 rfl inA3 rfl tyX3 tyX3_ok nmX3 0 (by decide) k_94 rfl (Or.inr ⟨rfl, hin, rfl⟩) (by decide +kernel) rfl rfl (Nat.le_of_ble_eq_true rfl) rfl dX3_init_9 (fun H locs hP hS => ?_)
  refine lv_aload_n hx hb dX3_init_12 rfl (lv_at hl 0 rfl) ?_
  refine lv_bipush (v := 40) hx hb dX3_init_13 (by decide) ?_
  refine e_newI (N := 40) X hP hq hS k_47 (n := 2) rfl (by decide) rfl (by decide) (Nat.le_of_ble_eq_true rfl) (Nat.le_of_ble_eq_true rfl) dX3_init_15 (fun H hP hS => ?_)
  have hP : PT G B (cs0 ++ [.inr (3, [.ref (B + (q + 1)), .null, .null, .int 0]), .inl (cy 0, 40, .inl (fun _ => 0)), .inl (cy 0, 40, .inl (fun _ => 0))]) H := hP
  refine e_put (ty := tyX3 1) (t' := [.inr (3, [.ref (B + (q + 1)), .ref (B + (q + 2)), .null, .int 0]), .inl (cy 0, 40, .inl (fun _ => 0)), .inl (cy 0, 40, .inl (fun _ => 0))]) X hP hq hS 0 rfl inA3 rfl tyX3 tyX3_ok nmX3 1 (by decide) k_96 rfl (Or.inr ⟨rfl, hin, rfl⟩) (by decide +kernel) rfl rfl (Nat.le_of_ble_eq_true rfl) rfl dX3_init_17 (fun H locs hP hS => ?_)
  refine lv_aload_n hx hb dX3_init_20 rfl (lv_at hl 0 rfl) ?_
  refine lv_bipush (v := 40) hx hb dX3_init_21 (by decide) ?_
  refine e_newL (N := 40) X hP hq hS k_48 (n := 3) rfl (by decide) rfl (by decide) (Nat.le_of_ble_eq_true rfl) (Nat.le_of_ble_eq_true rfl) dX3_init_23 (fun H hP hS => ?_)
  have hP : PT G B (cs0 ++ [.inr (3, [.ref (B + (q + 1)), .ref (B + (q + 2)), .null, .int 0]), .inl (cy 0, 40, .inl (fun _ => 0)), .inl (cy 0, 40, .inl (fun _ => 0)), .inl (cy 1, 40, .inr (.inl (fun _ => 0)))]) H := hP
  refine e_put (ty := tyX3 2) (t' := [.inr (3, [.ref (B + (q + 1)), .ref (B + (q + 2)), .ref (B + (q + 3)), .int 0]), .inl (cy 0, 40, .inl (fun _ => 0)), .inl (cy 0, 40, .inl (fun _ => 0)), .inl (cy 1, 40, .inr (.inl (fun _ => 0)))]) X hP hq hS 0 rfl inA3 rfl tyX3 tyX3_ok nmX3 2 (by decide) k_98 rfl (Or.inr ⟨rfl, hin, rfl⟩) (by decide +kernel) rfl rfl (Nat.le_of_ble_eq_true rfl) rfl dX3_init_25 (fun H locs hP hS => ?_)
  exact e_vret X hP hS dX3_init_28
abbrev rmX2_init : Room := { frames := 2, cells := 5, slots := 164, locals := 61 }
set_option maxRecDepth 100000 in
set_option maxHeartbeats 4000000 in
theorem c_X2_init {l : Launch} {G : va_G} {cy : Nat → ClassId} {B : Nat} {cs0 : List va_E} {q : Nat} (hq : cs0.length = q) : Met l yX2_init (wsU yX2_init cX2_init 1 none) rmX2_init (va_Pc [.ref (B + q)] (PUT G B cy (cs0 ++ [.inr (2, [.null, .long 0, .long 0, .int 0, .int 0])]))) (QvT G B (cs0 ++ [.inr (2, [.ref (B + (q + 1)), .long 0, .long 0, .int 0, .int 0]), .inr (1, [.ref (B + (q + 2)), .ref (B + (q + 3)), .ref (B + (q + 4)), .ref (B + (q + 5))]), .inl (cy 0, 40, .inl (fun _ => 0)), .inl (cy 1, 40, .inr (.inl (fun _ => 0))), .inl (cy 0, 40, .inl (cF 40)), .inl (cy 0, 40, .inl (cF 40))])) 5 164 (FB B) := by
  refine e_met (by decide +kernel) RX2 rfl rfl (Nat.le_of_ble_eq_true rfl) ?_
  intro p e s m args below meth c ls X hO hin hP hl
  have hl : lv_has ls 1 [(0, .ref (B + (q + 0)))] := hl
  have hS : va_S (FB B) s.heap s.heap [] := va_S.rf
  obtain ⟨hx, hb, hr, hml, hown, hts, hKn, hlk⟩ := id X
  have hP : ∃ H, H = s.heap ∧ PT G B (cs0 ++ [.inr (2, [.null, .long 0, .long 0, .int 0, .int 0])]) H := ⟨_, rfl, hP⟩
  obtain ⟨H, eH, hP⟩ := hP
  have hS : va_S (FB B) s.heap H [] := by rw [eH]; exact hS
  rw [← eH]
  rw [← eH] at hS
  rw [eH] at hS ⊢
  rw [eH] at hP
  refine lv_aload_n hx hb dX2_init_0 rfl (lv_at hl 0 rfl) ?_
  refine W.objInit hx hb hown (hts _ k_109) (hts _ k_19) (hts _ k_20) rfl (by rw [hml]; exact hl.1) rfl dX2_init_1 (Nat.le_of_ble_eq_true rfl) (Nat.le_of_ble_eq_true rfl) ?_
  refine W.eq (g2 := F0 m 4 ls []) rfl ?_
  refine lv_aload_n hx hb dX2_init_4 rfl (lv_at hl 0 rfl) ?_
  refine e_new (C := RX1) (T := TX1) (N := 4) (ci := 1) X hP hq hS inA1 tyX1 tyX1_ok k_110 k_28 k_3 rfl [.null, .null, .null, .null] (fun j hj => by rcases (show j = 0 ∨ j = 1 ∨ j = 2 ∨ j = 3 by omega) with rfl | rfl | rfl | rfl <;> rfl) (n := 1) rfl (Nat.le_of_ble_eq_true rfl) (Nat.le_of_ble_eq_true rfl) dX2_init_5 (fun H hP hS => ?_)
  have hP : PT G B (cs0 ++ [.inr (2, [.null, .long 0, .long 0, .int 0, .int 0]), .inr (1, [.null, .null, .null, .null])]) H := hP
  refine lv_dup hx hb dX2_init_8 rfl ?_
  have hq2 : (cs0 ++ ([.inr (2, [.null, .long 0, .long 0, .int 0, .int 0])] : List va_E)).length = q + 1 := by rw [List.length_append, hq]; rfl
  have hP : PT G B ((cs0 ++ ([.inr (2, [.null, .long 0, .long 0, .int 0, .int 0])] : List va_E)) ++ [.inr (1, [.null, .null, .null, .null])]) H := by rw [List.append_assoc]; exact hP
  refine e_ini X hO hP hS (c_X1_init hq2) k_111 k_30 k_3 k_31 rfl hd_X1_init ⟨⟨rfl, rfl⟩, Nat.le_of_ble_eq_true rfl, Nat.le_of_ble_eq_true rfl⟩ (As := []) (rest := [.ref (B + (q + 1)), .ref (B + (q + 0))]) rfl hl.1 rfl (Nat.le_of_ble_eq_true rfl) dX2_init_9 ⟨Nat.le_of_ble_eq_true rfl, Nat.le_of_ble_eq_true rfl⟩ (fun H locs hP hS => ?_)
  rw [List.append_assoc] at hP
  have hP : PT G B (cs0 ++ [.inr (2, [.null, .long 0, .long 0, .int 0, .int 0]), .inr (1, [.ref (B + (q + 2)), .ref (B + (q + 3)), .ref (B + (q + 4)), .ref (B + (q + 5))]), .inl (cy 0, 40, .inl (fun _ => 0)), .inl (cy 1, 40, .inr (.inl (fun _ => 0))), .inl (cy 0, 40, .inl (cF 40)), .inl (cy 0, 40, .inl (cF 40))]) H := hP
  refine e_put (ty := tyX2 0) (t' := [.inr (2, [.ref (B + (q + 1)), .long 0, .long 0, .int 0, .int 0]), .inr (1, [.ref (B + (q + 2)), .ref (B + (q + 3)), .ref (B + (q + 4)), .ref (B + (q + 5))]), .inl (cy 0, 40, .inl (fun _ => 0)), .inl (cy 1, 40, .inr (.inl (fun _ => 0))), .inl (cy 0, 40, .inl (cF 40)), .inl (cy 0, 40, .inl (cF 40))]) X hP hq hS 0 rfl inA2 rfl tyX2 tyX2_ok nmX2 0 (by decide) k_112 rfl (Or.inr ⟨rfl, hin, rfl⟩) (by decide +kernel) rfl rfl (Nat.le_of_ble_eq_true rfl) rfl dX2_init_12 (fun H locs hP hS => ?_)
  exact e_vret X hP hS dX2_init_15
abbrev rmX0_init : Room := { frames := 2, cells := 11, slots := 304, locals := 61 }
set_option maxRecDepth 100000 in
set_option maxHeartbeats 4000000 in
theorem c_X0_init {l : Launch} {G : va_G} {cy : Nat → ClassId} {B : Nat} {cs0 : List va_E} {q : Nat} (hq : cs0.length = q) {a1 : Nat} {a2 : Nat} : Met l yX0_init (wsU yX0_init cX0_init 3 none) rmX0_init (va_Pc [.ref (B + q), .ref a1, .ref a2] (PUT G B cy (cs0 ++ [.inr (0, [.null, .null, .null, .int 0, .int 0, .int 0, .long 0, .long 0, .long 0, .int 0, .int 0, .null, .null, .int 0, .null, .int 0, .null, .null, .null])]))) (QvT G B (cs0 ++ [.inr (0, [.ref a1, .ref a2, .ref (B + (q + 1)), .int (-1), .int 0, .int 0, .long 0, .long 0, .long 0, .int 0, .int 0, .ref (B + (q + 6)), .ref (B + (q + 7)), .int 0, .ref (B + (q + 8)), .int 0, .ref (B + (q + 9)), .ref (B + (q + 10)), .ref (B + (q + 11))]), .inr (1, [.ref (B + (q + 2)), .ref (B + (q + 3)), .ref (B + (q + 4)), .ref (B + (q + 5))]), .inl (cy 0, 40, .inl (fun _ => 0)), .inl (cy 1, 40, .inr (.inl (fun _ => 0))), .inl (cy 0, 40, .inl (cF 40)), .inl (cy 0, 40, .inl (cF 40)), .inl (cy 0, 6, .inl (fun _ => 0)), .inl (cy 0, 6, .inl (fun _ => 0)), .inl (cy 1, 8, .inr (.inl (fun _ => 0))), .inl (cy 0, 40, .inl (fun _ => 0)), .inl (cy 0, 40, .inl (fun _ => 0)), .inl (cy 1, 40, .inr (.inl (fun _ => 0)))])) 11 304 (FB B) := by
  refine e_met (by decide +kernel) RX0 rfl rfl (Nat.le_of_ble_eq_true rfl) ?_
  intro p e s m args below meth c ls X hO hin hP hl
  have hl : lv_has ls 3 [(0, .ref (B + (q + 0))), (1, .ref a1), (2, .ref a2)] := hl
  have hS : va_S (FB B) s.heap s.heap [] := va_S.rf
  obtain ⟨hx, hb, hr, hml, hown, hts, hKn, hlk⟩ := id X
  have hP : ∃ H, H = s.heap ∧ PT G B (cs0 ++ [.inr (0, [.null, .null, .null, .int 0, .int 0, .int 0, .long 0, .long 0, .long 0, .int 0, .int 0, .null, .null, .int 0, .null, .int 0, .null, .null, .null])]) H := ⟨_, rfl, hP⟩
  obtain ⟨H, eH, hP⟩ := hP
  have hS : va_S (FB B) s.heap H [] := by rw [eH]; exact hS
  rw [← eH]
  rw [← eH] at hS
  rw [eH] at hS ⊢
  rw [eH] at hP
  refine lv_aload_n hx hb dX0_init_0 rfl (lv_at hl 0 rfl) ?_
  refine W.objInit hx hb hown (hts _ k_122) (hts _ k_19) (hts _ k_20) rfl (by rw [hml]; exact hl.1) rfl dX0_init_1 (Nat.le_of_ble_eq_true rfl) (Nat.le_of_ble_eq_true rfl) ?_
  refine W.eq (g2 := F0 m 4 ls []) rfl ?_
  refine lv_aload_n hx hb dX0_init_4 rfl (lv_at hl 0 rfl) ?_
  refine e_new (C := RX1) (T := TX1) (N := 4) (ci := 1) X hP hq hS inA1 tyX1 tyX1_ok k_123 k_28 k_3 rfl [.null, .null, .null, .null] (fun j hj => by rcases (show j = 0 ∨ j = 1 ∨ j = 2 ∨ j = 3 by omega) with rfl | rfl | rfl | rfl <;> rfl) (n := 1) rfl (Nat.le_of_ble_eq_true rfl) (Nat.le_of_ble_eq_true rfl) dX0_init_5 (fun H hP hS => ?_)
  have hP : PT G B (cs0 ++ [.inr (0, [.null, .null, .null, .int 0, .int 0, .int 0, .long 0, .long 0, .long 0, .int 0, .int 0, .null, .null, .int 0, .null, .int 0, .null, .null, .null]), .inr (1, [.null, .null, .null, .null])]) H := hP
  refine lv_dup hx hb dX0_init_8 rfl ?_
  have hq2 : (cs0 ++ ([.inr (0, [.null, .null, .null, .int 0, .int 0, .int 0, .long 0, .long 0, .long 0, .int 0, .int 0, .null, .null, .int 0, .null, .int 0, .null, .null, .null])] : List va_E)).length = q + 1 := by rw [List.length_append, hq]; rfl
  have hP : PT G B ((cs0 ++ ([.inr (0, [.null, .null, .null, .int 0, .int 0, .int 0, .long 0, .long 0, .long 0, .int 0, .int 0, .null, .null, .int 0, .null, .int 0, .null, .null, .null])] : List va_E)) ++ [.inr (1, [.null, .null, .null, .null])]) H := by rw [List.append_assoc]; exact hP
  refine e_ini X hO hP hS (c_X1_init hq2) k_124 k_30 k_3 k_31 rfl hd_X1_init ⟨⟨rfl, rfl⟩, Nat.le_of_ble_eq_true rfl, Nat.le_of_ble_eq_true rfl⟩ (As := []) (rest := [.ref (B + (q + 1)), .ref (B + (q + 0))]) rfl hl.1 rfl (Nat.le_of_ble_eq_true rfl) dX0_init_9 ⟨Nat.le_of_ble_eq_true rfl, Nat.le_of_ble_eq_true rfl⟩ (fun H locs hP hS => ?_)
  rw [List.append_assoc] at hP
  have hP : PT G B (cs0 ++ [.inr (0, [.null, .null, .null, .int 0, .int 0, .int 0, .long 0, .long 0, .long 0, .int 0, .int 0, .null, .null, .int 0, .null, .int 0, .null, .null, .null]), .inr (1, [.ref (B + (q + 2)), .ref (B + (q + 3)), .ref (B + (q + 4)), .ref (B + (q + 5))]), .inl (cy 0, 40, .inl (fun _ => 0)), .inl (cy 1, 40, .inr (.inl (fun _ => 0))), .inl (cy 0, 40, .inl (cF 40)), .inl (cy 0, 40, .inl (cF 40))]) H := hP
  refine e_put (ty := tyX0 2) (t' := [.inr (0, [.null, .null, .ref (B + (q + 1)), .int 0, .int 0, .int 0, .long 0, .long 0, .long 0, .int 0, .int 0, .null, .null, .int 0, .null, .int 0, .null, .null, .null]), .inr (1, [.ref (B + (q + 2)), .ref (B + (q + 3)), .ref (B + (q + 4)), .ref (B + (q + 5))]), .inl (cy 0, 40, .inl (fun _ => 0)), .inl (cy 1, 40, .inr (.inl (fun _ => 0))), .inl (cy 0, 40, .inl (cF 40)), .inl (cy 0, 40, .inl (cF 40))]) X hP hq hS 0 rfl inA0 rfl tyX0 tyX0_ok nmX0 2 (by decide) k_127 rfl (Or.inr ⟨rfl, hin, rfl⟩) (by decide +kernel) rfl rfl (Nat.le_of_ble_eq_true rfl) rfl dX0_init_12 (fun H locs hP hS => ?_)
  refine lv_aload_n hx hb dX0_init_15 rfl (lv_at hl 0 rfl) ?_
  refine lv_iconst (v := (-1)) hx hb dX0_init_16 (by decide) ?_
  refine e_put (ty := .int) (t' := [.inr (0, [.null, .null, .ref (B + (q + 1)), .int (-1), .int 0, .int 0, .long 0, .long 0, .long 0, .int 0, .int 0, .null, .null, .int 0, .null, .int 0, .null, .null, .null]), .inr (1, [.ref (B + (q + 2)), .ref (B + (q + 3)), .ref (B + (q + 4)), .ref (B + (q + 5))]), .inl (cy 0, 40, .inl (fun _ => 0)), .inl (cy 1, 40, .inr (.inl (fun _ => 0))), .inl (cy 0, 40, .inl (cF 40)), .inl (cy 0, 40, .inl (cF 40))]) X hP hq hS 0 rfl inA0 rfl tyX0 tyX0_ok nmX0 3 (by decide) k_130 rfl (Or.inl rfl) (by decide +kernel) rfl rfl (Nat.le_of_ble_eq_true rfl) rfl dX0_init_17 (fun H locs hP hS => ?_)
  refine lv_aload_n hx hb dX0_init_20 rfl (lv_at hl 0 rfl) ?_
  refine lv_bipush (v := 6) hx hb dX0_init_21 (by decide) ?_
  refine e_newI (N := 6) X hP hq hS k_47 (n := 6) rfl (by decide) rfl (by decide) (Nat.le_of_ble_eq_true rfl) (Nat.le_of_ble_eq_true rfl) dX0_init_23 (fun H hP hS => ?_)
  have hP : PT G B (cs0 ++ [.inr (0, [.null, .null, .ref (B + (q + 1)), .int (-1), .int 0, .int 0, .long 0, .long 0, .long 0, .int 0, .int 0, .null, .null, .int 0, .null, .int 0, .null, .null, .null]), .inr (1, [.ref (B + (q + 2)), .ref (B + (q + 3)), .ref (B + (q + 4)), .ref (B + (q + 5))]), .inl (cy 0, 40, .inl (fun _ => 0)), .inl (cy 1, 40, .inr (.inl (fun _ => 0))), .inl (cy 0, 40, .inl (cF 40)), .inl (cy 0, 40, .inl (cF 40)), .inl (cy 0, 6, .inl (fun _ => 0))]) H := hP
  refine e_put (ty := tyX0 11) (t' := [.inr (0, [.null, .null, .ref (B + (q + 1)), .int (-1), .int 0, .int 0, .long 0, .long 0, .long 0, .int 0, .int 0, .ref (B + (q + 6)), .null, .int 0, .null, .int 0, .null, .null, .null]), .inr (1, [.ref (B + (q + 2)), .ref (B + (q + 3)), .ref (B + (q + 4)), .ref (B + (q + 5))]), .inl (cy 0, 40, .inl (fun _ => 0)), .inl (cy 1, 40, .inr (.inl (fun _ => 0))), .inl (cy 0, 40, .inl (cF 40)), .inl (cy 0, 40, .inl (cF 40)), .inl (cy 0, 6, .inl (fun _ => 0))]) X hP hq hS 0 rfl inA0 rfl tyX0 tyX0_ok nmX0 11 (by decide) k_150 rfl (Or.inr ⟨rfl, hin, rfl⟩) (by decide +kernel) rfl rfl (Nat.le_of_ble_eq_true rfl) rfl dX0_init_25 (fun H locs hP hS => ?_)
  refine lv_aload_n hx hb dX0_init_28 rfl (lv_at hl 0 rfl) ?_
  refine lv_bipush (v := 6) hx hb dX0_init_29 (by decide) ?_
  refine e_newI (N := 6) X hP hq hS k_47 (n := 7) rfl (by decide) rfl (by decide) (Nat.le_of_ble_eq_true rfl) (Nat.le_of_ble_eq_true rfl) dX0_init_31 (fun H hP hS => ?_)
  have hP : PT G B (cs0 ++ [.inr (0, [.null, .null, .ref (B + (q + 1)), .int (-1), .int 0, .int 0, .long 0, .long 0, .long 0, .int 0, .int 0, .ref (B + (q + 6)), .null, .int 0, .null, .int 0, .null, .null, .null]), .inr (1, [.ref (B + (q + 2)), .ref (B + (q + 3)), .ref (B + (q + 4)), .ref (B + (q + 5))]), .inl (cy 0, 40, .inl (fun _ => 0)), .inl (cy 1, 40, .inr (.inl (fun _ => 0))), .inl (cy 0, 40, .inl (cF 40)), .inl (cy 0, 40, .inl (cF 40)), .inl (cy 0, 6, .inl (fun _ => 0)), .inl (cy 0, 6, .inl (fun _ => 0))]) H := hP
  refine e_put (ty := tyX0 12) (t' := [.inr (0, [.null, .null, .ref (B + (q + 1)), .int (-1), .int 0, .int 0, .long 0, .long 0, .long 0, .int 0, .int 0, .ref (B + (q + 6)), .ref (B + (q + 7)), .int 0, .null, .int 0, .null, .null, .null]), .inr (1, [.ref (B + (q + 2)), .ref (B + (q + 3)), .ref (B + (q + 4)), .ref (B + (q + 5))]), .inl (cy 0, 40, .inl (fun _ => 0)), .inl (cy 1, 40, .inr (.inl (fun _ => 0))), .inl (cy 0, 40, .inl (cF 40)), .inl (cy 0, 40, .inl (cF 40)), .inl (cy 0, 6, .inl (fun _ => 0)), .inl (cy 0, 6, .inl (fun _ => 0))]) X hP hq hS 0 rfl inA0 rfl tyX0 tyX0_ok nmX0 12 (by decide) k_152 rfl (Or.inr ⟨rfl, hin, rfl⟩) (by decide +kernel) rfl rfl (Nat.le_of_ble_eq_true rfl) rfl dX0_init_33 (fun H locs hP hS => ?_)
  refine lv_aload_n hx hb dX0_init_36 rfl (lv_at hl 0 rfl) ?_
  refine lv_bipush (v := 8) hx hb dX0_init_37 (by decide) ?_
  refine e_newL (N := 8) X hP hq hS k_48 (n := 8) rfl (by decide) rfl (by decide) (Nat.le_of_ble_eq_true rfl) (Nat.le_of_ble_eq_true rfl) dX0_init_39 (fun H hP hS => ?_)
  have hP : PT G B (cs0 ++ [.inr (0, [.null, .null, .ref (B + (q + 1)), .int (-1), .int 0, .int 0, .long 0, .long 0, .long 0, .int 0, .int 0, .ref (B + (q + 6)), .ref (B + (q + 7)), .int 0, .null, .int 0, .null, .null, .null]), .inr (1, [.ref (B + (q + 2)), .ref (B + (q + 3)), .ref (B + (q + 4)), .ref (B + (q + 5))]), .inl (cy 0, 40, .inl (fun _ => 0)), .inl (cy 1, 40, .inr (.inl (fun _ => 0))), .inl (cy 0, 40, .inl (cF 40)), .inl (cy 0, 40, .inl (cF 40)), .inl (cy 0, 6, .inl (fun _ => 0)), .inl (cy 0, 6, .inl (fun _ => 0)), .inl (cy 1, 8, .inr (.inl (fun _ => 0)))]) H := hP
  refine e_put (ty := tyX0 14) (t' := [.inr (0, [.null, .null, .ref (B + (q + 1)), .int (-1), .int 0, .int 0, .long 0, .long 0, .long 0, .int 0, .int 0, .ref (B + (q + 6)), .ref (B + (q + 7)), .int 0, .ref (B + (q + 8)), .int 0, .null, .null, .null]), .inr (1, [.ref (B + (q + 2)), .ref (B + (q + 3)), .ref (B + (q + 4)), .ref (B + (q + 5))]), .inl (cy 0, 40, .inl (fun _ => 0)), .inl (cy 1, 40, .inr (.inl (fun _ => 0))), .inl (cy 0, 40, .inl (cF 40)), .inl (cy 0, 40, .inl (cF 40)), .inl (cy 0, 6, .inl (fun _ => 0)), .inl (cy 0, 6, .inl (fun _ => 0)), .inl (cy 1, 8, .inr (.inl (fun _ => 0)))]) X hP hq hS 0 rfl inA0 rfl tyX0 tyX0_ok nmX0 14 (by decide) k_156 rfl (Or.inr ⟨rfl, hin, rfl⟩) (by decide +kernel) rfl rfl (Nat.le_of_ble_eq_true rfl) rfl dX0_init_41 (fun H locs hP hS => ?_)
  refine lv_aload_n hx hb dX0_init_44 rfl (lv_at hl 0 rfl) ?_
  refine lv_bipush (v := 40) hx hb dX0_init_45 (by decide) ?_
  refine e_newI (N := 40) X hP hq hS k_47 (n := 9) rfl (by decide) rfl (by decide) (Nat.le_of_ble_eq_true rfl) (Nat.le_of_ble_eq_true rfl) dX0_init_47 (fun H hP hS => ?_)
  have hP : PT G B (cs0 ++ [.inr (0, [.null, .null, .ref (B + (q + 1)), .int (-1), .int 0, .int 0, .long 0, .long 0, .long 0, .int 0, .int 0, .ref (B + (q + 6)), .ref (B + (q + 7)), .int 0, .ref (B + (q + 8)), .int 0, .null, .null, .null]), .inr (1, [.ref (B + (q + 2)), .ref (B + (q + 3)), .ref (B + (q + 4)), .ref (B + (q + 5))]), .inl (cy 0, 40, .inl (fun _ => 0)), .inl (cy 1, 40, .inr (.inl (fun _ => 0))), .inl (cy 0, 40, .inl (cF 40)), .inl (cy 0, 40, .inl (cF 40)), .inl (cy 0, 6, .inl (fun _ => 0)), .inl (cy 0, 6, .inl (fun _ => 0)), .inl (cy 1, 8, .inr (.inl (fun _ => 0))), .inl (cy 0, 40, .inl (fun _ => 0))]) H := hP
  refine e_put (ty := tyX0 16) (t' := [.inr (0, [.null, .null, .ref (B + (q + 1)), .int (-1), .int 0, .int 0, .long 0, .long 0, .long 0, .int 0, .int 0, .ref (B + (q + 6)), .ref (B + (q + 7)), .int 0, .ref (B + (q + 8)), .int 0, .ref (B + (q + 9)), .null, .null]), .inr (1, [.ref (B + (q + 2)), .ref (B + (q + 3)), .ref (B + (q + 4)), .ref (B + (q + 5))]), .inl (cy 0, 40, .inl (fun _ => 0)), .inl (cy 1, 40, .inr (.inl (fun _ => 0))), .inl (cy 0, 40, .inl (cF 40)), .inl (cy 0, 40, .inl (cF 40)), .inl (cy 0, 6, .inl (fun _ => 0)), .inl (cy 0, 6, .inl (fun _ => 0)), .inl (cy 1, 8, .inr (.inl (fun _ => 0))), .inl (cy 0, 40, .inl (fun _ => 0))]) X hP hq hS 0 rfl inA0 rfl tyX0 tyX0_ok nmX0 16 (by decide) k_160 rfl (Or.inr ⟨rfl, hin, rfl⟩) (by decide +kernel) rfl rfl (Nat.le_of_ble_eq_true rfl) rfl dX0_init_49 (fun H locs hP hS => ?_)
  refine lv_aload_n hx hb dX0_init_52 rfl (lv_at hl 0 rfl) ?_
  refine lv_bipush (v := 40) hx hb dX0_init_53 (by decide) ?_
  refine e_newI (N := 40) X hP hq hS k_47 (n := 10) rfl (by decide) rfl (by decide) (Nat.le_of_ble_eq_true rfl) (Nat.le_of_ble_eq_true rfl) dX0_init_55 (fun H hP hS => ?_)
  have hP : PT G B (cs0 ++ [.inr (0, [.null, .null, .ref (B + (q + 1)), .int (-1), .int 0, .int 0, .long 0, .long 0, .long 0, .int 0, .int 0, .ref (B + (q + 6)), .ref (B + (q + 7)), .int 0, .ref (B + (q + 8)), .int 0, .ref (B + (q + 9)), .null, .null]), .inr (1, [.ref (B + (q + 2)), .ref (B + (q + 3)), .ref (B + (q + 4)), .ref (B + (q + 5))]), .inl (cy 0, 40, .inl (fun _ => 0)), .inl (cy 1, 40, .inr (.inl (fun _ => 0))), .inl (cy 0, 40, .inl (cF 40)), .inl (cy 0, 40, .inl (cF 40)), .inl (cy 0, 6, .inl (fun _ => 0)), .inl (cy 0, 6, .inl (fun _ => 0)), .inl (cy 1, 8, .inr (.inl (fun _ => 0))), .inl (cy 0, 40, .inl (fun _ => 0)), .inl (cy 0, 40, .inl (fun _ => 0))]) H := hP
  refine e_put (ty := tyX0 17) (t' := [.inr (0, [.null, .null, .ref (B + (q + 1)), .int (-1), .int 0, .int 0, .long 0, .long 0, .long 0, .int 0, .int 0, .ref (B + (q + 6)), .ref (B + (q + 7)), .int 0, .ref (B + (q + 8)), .int 0, .ref (B + (q + 9)), .ref (B + (q + 10)), .null]), .inr (1, [.ref (B + (q + 2)), .ref (B + (q + 3)), .ref (B + (q + 4)), .ref (B + (q + 5))]), .inl (cy 0, 40, .inl (fun _ => 0)), .inl (cy 1, 40, .inr (.inl (fun _ => 0))), .inl (cy 0, 40, .inl (cF 40)), .inl (cy 0, 40, .inl (cF 40)), .inl (cy 0, 6, .inl (fun _ => 0)), .inl (cy 0, 6, .inl (fun _ => 0)), .inl (cy 1, 8, .inr (.inl (fun _ => 0))), .inl (cy 0, 40, .inl (fun _ => 0)), .inl (cy 0, 40, .inl (fun _ => 0))]) X hP hq hS 0 rfl inA0 rfl tyX0 tyX0_ok nmX0 17 (by decide) k_162 rfl (Or.inr ⟨rfl, hin, rfl⟩) (by decide +kernel) rfl rfl (Nat.le_of_ble_eq_true rfl) rfl dX0_init_57 (fun H locs hP hS => ?_)
  refine lv_aload_n hx hb dX0_init_60 rfl (lv_at hl 0 rfl) ?_
  refine lv_bipush (v := 40) hx hb dX0_init_61 (by decide) ?_
  refine e_newL (N := 40) X hP hq hS k_48 (n := 11) rfl (by decide) rfl (by decide) (Nat.le_of_ble_eq_true rfl) (Nat.le_of_ble_eq_true rfl) dX0_init_63 (fun H hP hS => ?_)
  have hP : PT G B (cs0 ++ [.inr (0, [.null, .null, .ref (B + (q + 1)), .int (-1), .int 0, .int 0, .long 0, .long 0, .long 0, .int 0, .int 0, .ref (B + (q + 6)), .ref (B + (q + 7)), .int 0, .ref (B + (q + 8)), .int 0, .ref (B + (q + 9)), .ref (B + (q + 10)), .null]), .inr (1, [.ref (B + (q + 2)), .ref (B + (q + 3)), .ref (B + (q + 4)), .ref (B + (q + 5))]), .inl (cy 0, 40, .inl (fun _ => 0)), .inl (cy 1, 40, .inr (.inl (fun _ => 0))), .inl (cy 0, 40, .inl (cF 40)), .inl (cy 0, 40, .inl (cF 40)), .inl (cy 0, 6, .inl (fun _ => 0)), .inl (cy 0, 6, .inl (fun _ => 0)), .inl (cy 1, 8, .inr (.inl (fun _ => 0))), .inl (cy 0, 40, .inl (fun _ => 0)), .inl (cy 0, 40, .inl (fun _ => 0)), .inl (cy 1, 40, .inr (.inl (fun _ => 0)))]) H := hP
  refine e_put (ty := tyX0 18) (t' := [.inr (0, [.null, .null, .ref (B + (q + 1)), .int (-1), .int 0, .int 0, .long 0, .long 0, .long 0, .int 0, .int 0, .ref (B + (q + 6)), .ref (B + (q + 7)), .int 0, .ref (B + (q + 8)), .int 0, .ref (B + (q + 9)), .ref (B + (q + 10)), .ref (B + (q + 11))]), .inr (1, [.ref (B + (q + 2)), .ref (B + (q + 3)), .ref (B + (q + 4)), .ref (B + (q + 5))]), .inl (cy 0, 40, .inl (fun _ => 0)), .inl (cy 1, 40, .inr (.inl (fun _ => 0))), .inl (cy 0, 40, .inl (cF 40)), .inl (cy 0, 40, .inl (cF 40)), .inl (cy 0, 6, .inl (fun _ => 0)), .inl (cy 0, 6, .inl (fun _ => 0)), .inl (cy 1, 8, .inr (.inl (fun _ => 0))), .inl (cy 0, 40, .inl (fun _ => 0)), .inl (cy 0, 40, .inl (fun _ => 0)), .inl (cy 1, 40, .inr (.inl (fun _ => 0)))]) X hP hq hS 0 rfl inA0 rfl tyX0 tyX0_ok nmX0 18 (by decide) k_164 rfl (Or.inr ⟨rfl, hin, rfl⟩) (by decide +kernel) rfl rfl (Nat.le_of_ble_eq_true rfl) rfl dX0_init_65 (fun H locs hP hS => ?_)
  refine lv_aload_n hx hb dX0_init_68 rfl (lv_at hl 0 rfl) ?_
  refine lv_aload_n hx hb dX0_init_69 rfl (lv_at hl 1 rfl) ?_
  refine e_put (ty := tyX0 0) (t' := [.inr (0, [.ref a1, .null, .ref (B + (q + 1)), .int (-1), .int 0, .int 0, .long 0, .long 0, .long 0, .int 0, .int 0, .ref (B + (q + 6)), .ref (B + (q + 7)), .int 0, .ref (B + (q + 8)), .int 0, .ref (B + (q + 9)), .ref (B + (q + 10)), .ref (B + (q + 11))]), .inr (1, [.ref (B + (q + 2)), .ref (B + (q + 3)), .ref (B + (q + 4)), .ref (B + (q + 5))]), .inl (cy 0, 40, .inl (fun _ => 0)), .inl (cy 1, 40, .inr (.inl (fun _ => 0))), .inl (cy 0, 40, .inl (cF 40)), .inl (cy 0, 40, .inl (cF 40)), .inl (cy 0, 6, .inl (fun _ => 0)), .inl (cy 0, 6, .inl (fun _ => 0)), .inl (cy 1, 8, .inr (.inl (fun _ => 0))), .inl (cy 0, 40, .inl (fun _ => 0)), .inl (cy 0, 40, .inl (fun _ => 0)), .inl (cy 1, 40, .inr (.inl (fun _ => 0)))]) X hP hq hS 0 rfl inA0 rfl tyX0 tyX0_ok nmX0 0 (by decide) k_125 rfl (Or.inr ⟨rfl, hin, rfl⟩) (by decide +kernel) rfl rfl (Nat.le_of_ble_eq_true rfl) rfl dX0_init_70 (fun H locs hP hS => ?_)
  refine lv_aload_n hx hb dX0_init_73 rfl (lv_at hl 0 rfl) ?_
  refine lv_aload_n hx hb dX0_init_74 rfl (lv_at hl 2 rfl) ?_
  refine e_put (ty := tyX0 1) (t' := [.inr (0, [.ref a1, .ref a2, .ref (B + (q + 1)), .int (-1), .int 0, .int 0, .long 0, .long 0, .long 0, .int 0, .int 0, .ref (B + (q + 6)), .ref (B + (q + 7)), .int 0, .ref (B + (q + 8)), .int 0, .ref (B + (q + 9)), .ref (B + (q + 10)), .ref (B + (q + 11))]), .inr (1, [.ref (B + (q + 2)), .ref (B + (q + 3)), .ref (B + (q + 4)), .ref (B + (q + 5))]), .inl (cy 0, 40, .inl (fun _ => 0)), .inl (cy 1, 40, .inr (.inl (fun _ => 0))), .inl (cy 0, 40, .inl (cF 40)), .inl (cy 0, 40, .inl (cF 40)), .inl (cy 0, 6, .inl (fun _ => 0)), .inl (cy 0, 6, .inl (fun _ => 0)), .inl (cy 1, 8, .inr (.inl (fun _ => 0))), .inl (cy 0, 40, .inl (fun _ => 0)), .inl (cy 0, 40, .inl (fun _ => 0)), .inl (cy 1, 40, .inr (.inl (fun _ => 0)))]) X hP hq hS 0 rfl inA0 rfl tyX0 tyX0_ok nmX0 1 (by decide) k_126 rfl (Or.inr ⟨rfl, hin, rfl⟩) (by decide +kernel) rfl rfl (Nat.le_of_ble_eq_true rfl) rfl dX0_init_75 (fun H locs hP hS => ?_)
  exact e_vret X hP hS dX0_init_78
abbrev rmX6_init : Room := { frames := 1, cells := 3, slots := 20, locals := 40 }
set_option maxRecDepth 100000 in
set_option maxHeartbeats 4000000 in
theorem c_X6_init {l : Launch} {G : va_G} {cy : Nat → ClassId} {B : Nat} {cs0 : List va_E} {q : Nat} (hq : cs0.length = q) {a1 : Int32} : Met l yX6_init (wsU yX6_init cX6_init 2 none) rmX6_init (va_Pc [.ref (B + q), .int a1] (PUT G B cy (cs0 ++ [.inr (6, [.int 0, .int 0, .int 0, .int 0, .int 0, .int 0, .int 0, .int 0, .int 0, .int 0, .int 0, .long 0, .int 0, .int 0, .null, .null, .int 0, .null])]))) (QvT G B (cs0 ++ [.inr (6, [.int a1, .int 0, .int 0, .int 0, .int 0, .int 0, .int (-1), .int (-1), .int (-1), .int 0, .int 0, .long 0, .int 0, .int 0, .ref (B + (q + 1)), .ref (B + (q + 2)), .int 0, .ref (B + (q + 3))]), .inl (cy 0, 6, .inl (fun _ => 0)), .inl (cy 0, 6, .inl (fun _ => 0)), .inl (cy 1, 8, .inr (.inl (fun _ => 0)))])) 3 20 (FB B) := by
  refine e_met (by decide +kernel) RX6 rfl rfl (Nat.le_of_ble_eq_true rfl) ?_
  intro p e s m args below meth c ls X hO hin hP hl
  have hl : lv_has ls 2 [(0, .ref (B + (q + 0))), (1, .int a1)] := hl
  have hS : va_S (FB B) s.heap s.heap [] := va_S.rf
  obtain ⟨hx, hb, hr, hml, hown, hts, hKn, hlk⟩ := id X
  have hP : ∃ H, H = s.heap ∧ PT G B (cs0 ++ [.inr (6, [.int 0, .int 0, .int 0, .int 0, .int 0, .int 0, .int 0, .int 0, .int 0, .int 0, .int 0, .long 0, .int 0, .int 0, .null, .null, .int 0, .null])]) H := ⟨_, rfl, hP⟩
  obtain ⟨H, eH, hP⟩ := hP
  have hS : va_S (FB B) s.heap H [] := by rw [eH]; exact hS
  rw [← eH]
  rw [← eH] at hS
  rw [eH] at hS ⊢
  rw [eH] at hP
  refine lv_aload_n hx hb dX6_init_0 rfl (lv_at hl 0 rfl) ?_
  refine W.objInit hx hb hown (hts _ k_296) (hts _ k_19) (hts _ k_20) rfl (by rw [hml]; exact hl.1) rfl dX6_init_1 (Nat.le_of_ble_eq_true rfl) (Nat.le_of_ble_eq_true rfl) ?_
  refine W.eq (g2 := F0 m 4 ls []) rfl ?_
  refine lv_aload_n hx hb dX6_init_4 rfl (lv_at hl 0 rfl) ?_
  refine lv_iconst (v := 0) hx hb dX6_init_5 (by decide) ?_
  refine e_put (ty := .int) (t' := [.inr (6, [.int 0, .int 0, .int 0, .int 0, .int 0, .int 0, .int 0, .int 0, .int 0, .int 0, .int 0, .long 0, .int 0, .int 0, .null, .null, .int 0, .null])]) X hP hq hS 0 rfl inA6 rfl tyX6 tyX6_ok nmX6 1 (by decide) k_299 rfl (Or.inl rfl) (by decide +kernel) rfl rfl (Nat.le_of_ble_eq_true rfl) rfl dX6_init_6 (fun H locs hP hS => ?_)
  refine lv_aload_n hx hb dX6_init_9 rfl (lv_at hl 0 rfl) ?_
  refine lv_iconst (v := (-1)) hx hb dX6_init_10 (by decide) ?_
  refine e_put (ty := .int) (t' := [.inr (6, [.int 0, .int 0, .int 0, .int 0, .int 0, .int 0, .int (-1), .int 0, .int 0, .int 0, .int 0, .long 0, .int 0, .int 0, .null, .null, .int 0, .null])]) X hP hq hS 0 rfl inA6 rfl tyX6 tyX6_ok nmX6 6 (by decide) k_305 rfl (Or.inl rfl) (by decide +kernel) rfl rfl (Nat.le_of_ble_eq_true rfl) rfl dX6_init_11 (fun H locs hP hS => ?_)
  refine lv_aload_n hx hb dX6_init_14 rfl (lv_at hl 0 rfl) ?_
  refine lv_iconst (v := (-1)) hx hb dX6_init_15 (by decide) ?_
  refine e_put (ty := .int) (t' := [.inr (6, [.int 0, .int 0, .int 0, .int 0, .int 0, .int 0, .int (-1), .int (-1), .int 0, .int 0, .int 0, .long 0, .int 0, .int 0, .null, .null, .int 0, .null])]) X hP hq hS 0 rfl inA6 rfl tyX6 tyX6_ok nmX6 7 (by decide) k_307 rfl (Or.inl rfl) (by decide +kernel) rfl rfl (Nat.le_of_ble_eq_true rfl) rfl dX6_init_16 (fun H locs hP hS => ?_)
  refine lv_aload_n hx hb dX6_init_19 rfl (lv_at hl 0 rfl) ?_
  refine lv_iconst (v := (-1)) hx hb dX6_init_20 (by decide) ?_
  refine e_put (ty := .int) (t' := [.inr (6, [.int 0, .int 0, .int 0, .int 0, .int 0, .int 0, .int (-1), .int (-1), .int (-1), .int 0, .int 0, .long 0, .int 0, .int 0, .null, .null, .int 0, .null])]) X hP hq hS 0 rfl inA6 rfl tyX6 tyX6_ok nmX6 8 (by decide) k_309 rfl (Or.inl rfl) (by decide +kernel) rfl rfl (Nat.le_of_ble_eq_true rfl) rfl dX6_init_21 (fun H locs hP hS => ?_)
  refine lv_aload_n hx hb dX6_init_24 rfl (lv_at hl 0 rfl) ?_
  refine lv_bipush (v := 6) hx hb dX6_init_25 (by decide) ?_
  refine e_newI (N := 6) X hP hq hS k_47 (n := 1) rfl (by decide) rfl (by decide) (Nat.le_of_ble_eq_true rfl) (Nat.le_of_ble_eq_true rfl) dX6_init_27 (fun H hP hS => ?_)
  have hP : PT G B (cs0 ++ [.inr (6, [.int 0, .int 0, .int 0, .int 0, .int 0, .int 0, .int (-1), .int (-1), .int (-1), .int 0, .int 0, .long 0, .int 0, .int 0, .null, .null, .int 0, .null]), .inl (cy 0, 6, .inl (fun _ => 0))]) H := hP
  refine e_put (ty := tyX6 14) (t' := [.inr (6, [.int 0, .int 0, .int 0, .int 0, .int 0, .int 0, .int (-1), .int (-1), .int (-1), .int 0, .int 0, .long 0, .int 0, .int 0, .ref (B + (q + 1)), .null, .int 0, .null]), .inl (cy 0, 6, .inl (fun _ => 0))]) X hP hq hS 0 rfl inA6 rfl tyX6 tyX6_ok nmX6 14 (by decide) k_321 rfl (Or.inr ⟨rfl, hin, rfl⟩) (by decide +kernel) rfl rfl (Nat.le_of_ble_eq_true rfl) rfl dX6_init_29 (fun H locs hP hS => ?_)
  refine lv_aload_n hx hb dX6_init_32 rfl (lv_at hl 0 rfl) ?_
  refine lv_bipush (v := 6) hx hb dX6_init_33 (by decide) ?_
  refine e_newI (N := 6) X hP hq hS k_47 (n := 2) rfl (by decide) rfl (by decide) (Nat.le_of_ble_eq_true rfl) (Nat.le_of_ble_eq_true rfl) dX6_init_35 (fun H hP hS => ?_)
  have hP : PT G B (cs0 ++ [.inr (6, [.int 0, .int 0, .int 0, .int 0, .int 0, .int 0, .int (-1), .int (-1), .int (-1), .int 0, .int 0, .long 0, .int 0, .int 0, .ref (B + (q + 1)), .null, .int 0, .null]), .inl (cy 0, 6, .inl (fun _ => 0)), .inl (cy 0, 6, .inl (fun _ => 0))]) H := hP
  refine e_put (ty := tyX6 15) (t' := [.inr (6, [.int 0, .int 0, .int 0, .int 0, .int 0, .int 0, .int (-1), .int (-1), .int (-1), .int 0, .int 0, .long 0, .int 0, .int 0, .ref (B + (q + 1)), .ref (B + (q + 2)), .int 0, .null]), .inl (cy 0, 6, .inl (fun _ => 0)), .inl (cy 0, 6, .inl (fun _ => 0))]) X hP hq hS 0 rfl inA6 rfl tyX6 tyX6_ok nmX6 15 (by decide) k_323 rfl (Or.inr ⟨rfl, hin, rfl⟩) (by decide +kernel) rfl rfl (Nat.le_of_ble_eq_true rfl) rfl dX6_init_37 (fun H locs hP hS => ?_)
  refine lv_aload_n hx hb dX6_init_40 rfl (lv_at hl 0 rfl) ?_
  refine lv_bipush (v := 8) hx hb dX6_init_41 (by decide) ?_
  refine e_newL (N := 8) X hP hq hS k_48 (n := 3) rfl (by decide) rfl (by decide) (Nat.le_of_ble_eq_true rfl) (Nat.le_of_ble_eq_true rfl) dX6_init_43 (fun H hP hS => ?_)
  have hP : PT G B (cs0 ++ [.inr (6, [.int 0, .int 0, .int 0, .int 0, .int 0, .int 0, .int (-1), .int (-1), .int (-1), .int 0, .int 0, .long 0, .int 0, .int 0, .ref (B + (q + 1)), .ref (B + (q + 2)), .int 0, .null]), .inl (cy 0, 6, .inl (fun _ => 0)), .inl (cy 0, 6, .inl (fun _ => 0)), .inl (cy 1, 8, .inr (.inl (fun _ => 0)))]) H := hP
  refine e_put (ty := tyX6 17) (t' := [.inr (6, [.int 0, .int 0, .int 0, .int 0, .int 0, .int 0, .int (-1), .int (-1), .int (-1), .int 0, .int 0, .long 0, .int 0, .int 0, .ref (B + (q + 1)), .ref (B + (q + 2)), .int 0, .ref (B + (q + 3))]), .inl (cy 0, 6, .inl (fun _ => 0)), .inl (cy 0, 6, .inl (fun _ => 0)), .inl (cy 1, 8, .inr (.inl (fun _ => 0)))]) X hP hq hS 0 rfl inA6 rfl tyX6 tyX6_ok nmX6 17 (by decide) k_327 rfl (Or.inr ⟨rfl, hin, rfl⟩) (by decide +kernel) rfl rfl (Nat.le_of_ble_eq_true rfl) rfl dX6_init_45 (fun H locs hP hS => ?_)
  refine lv_aload_n hx hb dX6_init_48 rfl (lv_at hl 0 rfl) ?_
  refine lv_iload_n hx hb dX6_init_49 rfl (lv_at hl 1 rfl) ?_
  refine e_put (ty := .int) (t' := [.inr (6, [.int a1, .int 0, .int 0, .int 0, .int 0, .int 0, .int (-1), .int (-1), .int (-1), .int 0, .int 0, .long 0, .int 0, .int 0, .ref (B + (q + 1)), .ref (B + (q + 2)), .int 0, .ref (B + (q + 3))]), .inl (cy 0, 6, .inl (fun _ => 0)), .inl (cy 0, 6, .inl (fun _ => 0)), .inl (cy 1, 8, .inr (.inl (fun _ => 0)))]) X hP hq hS 0 rfl inA6 rfl tyX6 tyX6_ok nmX6 0 (by decide) k_297 rfl (Or.inr ⟨rfl, hin, rfl⟩) (by decide +kernel) rfl rfl (Nat.le_of_ble_eq_true rfl) rfl dX6_init_50 (fun H locs hP hS => ?_)
  exact e_vret X hP hS dX6_init_53

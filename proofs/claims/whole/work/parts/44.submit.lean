section SUB
variable {p : Program} {l : Launch} {e : Env} {R : Room} {s : State} {m : MethodId} {args : Array Value} {below : List Frame} {meth : Method} {c : Code} {H : Heap} {locs : List Loc} {cells slots : Nat} {Q : State → Prop}
variable {cc : ByteArray} {own : String} {nL : Nat} {rt : Option FieldType} {G : va_G} {cy : Nat → ClassId} {B : Nat} {cs0 t : List va_E} {pc : Nat} {ls : Array Slot} {rest st0 : List Value} {q j n : Nat} {i : Int32}
theorem e_aastG {a ci jv : Nat} {r : vw_C} {vs : List Value} {f : Nat → Option Nat} {cs : List va_E} (X : Cx p s m args meth c cc own nL rt G cy) (hP : PT G B cs H) (hS : va_S (FB B) s.heap H locs) (j : Nat) (hj : cs[j]? = some (.inl (cy a, n, .inr (.inr (.inr (.inr f)))))) (hty : (tysOf cy)[a]? = some (cy a, .object r.1)) (hv : cs[jv]? = some (.inr (ci, vs))) (hc : vwCl[ci]? = some r) (hi : inR i n = true) (hdg : decode cc pc = .ok (.aastore, 1))
    (kk : ∀ (H1 : Heap) (locs1 : List Loc), PT G B (cs.set j (.inl (cy a, n, .inr (.inr (.inr (.inr (va_up f i.toNatClampNeg (some (B + jv))))))))) H1 → va_S (FB B) s.heap H1 locs1 → W p l e R s m args below meth c H1 locs1 cells slots Q (F0 m (pc + 1) ls rest)) : W p l e R s m args below meth c H locs cells slots Q (F0 m pc ls (.ref (B + jv) :: .int i :: .ref (B + j) :: rest)) := by
  have ha : va_at G vwCl (B + j, .inl (cy a, n, .inr (.inr (.inr (.inr f))))) H := hP.2 j _ hj
  have hlt := inR_lt hi
  have h0 : ¬ i < 0 := fun z => inR_vp hi (Or.inl z)
  obtain ⟨r', hr', cellV, g1, g2, g3, -⟩ := hP.2 jv _ hv
  have hK := X.2.2.2.2.2.2.1.1
  have hcls := (hK.1 ci r hc).2
  obtain ⟨kA, comp, k1, k2, k3, -⟩ := (hK.2 a _ hty).2
  have hcomp : comp = G.1 ci := Option.some.inj (k3.symm.trans hcls.1)
  subst hcomp
  obtain ⟨kC, hkC, -⟩ := hcls.2
  refine W.aast X.1 X.2.1 ha (fun q h => by cases h) (fun h => by cases h) k1 k2 rfl hkC ⟨h0, by show _ < (arrV _ _ _).slots.size; rw [arrV_size]; exact hlt⟩ g1 (fun q h => by rw [g3] at h; cases h) (by rw [g2]; exact hkC) (by rw [g2]; exact va_assign hcls) rfl rfl hdg fun H1 e1 z oq => ?_
  refine kk H1 _ ?_ (hS.put z oq (Nat.le_add_right _ _))
  refine hP.upd z oq ?_
  show H1[B + j]? = some (arrV (cy a) n (fun k => va_rf (va_up f i.toNatClampNeg (some (B + jv)) k)))
  rw [e1]
  show some ((arrV (cy a) n (fun k => va_rf (f k))).setSlot _ _) = _
  rw [arrV_store]
  congr 2
  funext k
  by_cases hk : k = i.toNatClampNeg
  · subst hk
    simp [updV, va_up, va_rf]
  · simp [updV, va_up, hk]
end SUB
section FIELDS
variable {p : Program} {l : Launch} {e : Env} {R : Room} {s : State} {m : MethodId} {args : Array Value} {below : List Frame} {meth : Method} {c : Code} {H : Heap} {locs : List Loc} {cells slots : Nat} {Q : State → Prop}
variable {cc : ByteArray} {nL : Nat} {rt : Option FieldType} {G : va_G} {cy : Nat → ClassId} {B nT : Nat} {M M1 : Mem} {pc : Nat} {ls : Array Slot} {rest : List Value} {q : Nat}
theorem pf_X8_151 {v : Int32} (X : Cx p s m args meth c cc RX8 nL rt G cy) (hP : Pic G B cy nT M H) (hS : va_S (FB B) s.heap H locs) (eM : M1 = sI M 0 8 v) (hdg : decode cc pc = .ok (.putfield 151, 3)) (kk : ∀ (H1 : Heap) (locs1 : List Loc), Pic G B cy nT M1 H1 → va_S (FB B) s.heap H1 locs1 → W p l e R s m args below meth c H1 locs1 cells slots Q (F0 m (pc + 3) ls rest)) : W p l e R s m args below meth c H locs cells slots Q (F0 m pc ls (.int v :: .ref (B + 0) :: rest)) := by
  subst eM
  exact r_put (q := 0) (ty := .int) X hP hS kq_0 inA8 (ci := 8) rfl tyX8 tyX8_ok nmX8 8 (by decide) k_176 rfl rfl (by decide +kernel) rfl rfl (Nat.le_of_ble_eq_true rfl) ((em_fi (kq_0 (nT := nT)).2).trans rfl) em_io hdg kk
end FIELDS
def tkI (a1 : Int32) : Nat → Int32 := fun i => if i = 0 then a1 else if i = 6 ∨ i = 7 ∨ i = 8 then -1 else 0
/-- a new ticket's cells -/
def nwT (M : Mem) (q : Nat) (a1 : Int32) : Mem := (fun q' => if q' = q then tkI a1 else if q' = q + 1 ∨ q' = q + 2 then (fun _ => 0) else M.1 q', fun q' => if q' = q ∨ q' = q + 3 then (fun _ => 0) else M.2.1 q', M.2.2)
def f_X8_submit (nT : Nat) (M : Mem) (a1 : Int32) : Option (Int32 × Mem × Nat) :=
  Option.bind (f_X8_isTrade a1) fun r_1 => if (bI r_1) = 0 then (some ((-2), M, nT)) else (if (gI M 0 8) < 20 then (gd (gI M 0 8 == nI nT) <| gd (decide (nT < 20)) <| lt (nwT M (189 + 4 * nT) a1) fun M_1 => lt (sI M_1 0 8 (gI M_1 0 8 + 1)) fun M_2 => some (gI M_2 0 8 - 1, M_2, nT + 1)) else (some ((-3), M, nT)))
def csM (B : Nat) (cy : Nat → ClassId) (nT : Nat) (M : Mem) : List va_E := (List.range (nxOf nT)).map (EM B cy nT M)
theorem csM_len {B : Nat} {cy : Nat → ClassId} {nT : Nat} {M : Mem} : (csM B cy nT M).length = nxOf nT := by unfold csM; simp
theorem csM_get {B : Nat} {cy : Nat → ClassId} {nT : Nat} {M : Mem} {q : Nat} (h : q < nxOf nT) : (csM B cy nT M)[q]? = some (EM B cy nT M q) := by
  unfold csM
  rw [List.getElem?_map, List.getElem?_range h]
  rfl
theorem Pic.PT {G : va_G} {B : Nat} {cy : Nat → ClassId} {nT : Nat} {M : Mem} {H : Heap} (h : Pic G B cy nT M H) : PT G B (csM B cy nT M) H := by
  refine ⟨by rw [csM_len]; exact h.1, fun i e hi => ?_⟩
  have hl : i < nxOf nT := by rw [← csM_len (B := B) (cy := cy) (M := M)]; exact (List.getElem?_eq_some_iff.mp hi).1
  rw [csM_get hl] at hi
  cases hi
  exact h.2 i _ (wm_get hl)
/-- a list of cells that are those of the store is the store -/
theorem PT.Pic {G : va_G} {B : Nat} {cy : Nat → ClassId} {nT : Nat} {M : Mem} {H : Heap} {cs : List va_E} (h : PT G B cs H) (hl : cs.length = nxOf nT) (hc : ∀ q, q < nxOf nT → ∀ e, cs[q]? = some e → va_at G vwCl (B + q, e) H → va_at G vwCl (B + q, EM B cy nT M q) H) : Pic G B cy nT M H := by
  refine ⟨by rw [h.1, hl], fun k x hx => ?_⟩
  obtain ⟨h1, rfl⟩ := wm_lt hx
  have h2 : k < cs.length := by rw [hl]; exact h1
  exact hc k h1 _ (List.getElem?_eq_getElem h2) (h.2 k _ (List.getElem?_eq_getElem h2))
theorem arrV_cg {cA : ClassId} {n : Nat} {f g : Nat → Value} (h : ∀ j, j < n → f j = g j) : arrV cA n f = arrV cA n g := by
  unfold arrV
  congr 2
  funext j
  exact h j.val j.isLt
theorem kd4 : ∀ q, q < 189 → q ≠ 26 → (kd q).1 ≠ 4 := by decide +kernel
theorem mkE_nT {B : Nat} {cy : Nat → ClassId} {n n' q : Nat} {k : Nat × Nat} {hi : Nat → Int32} {hl : Nat → Int64} {hb : Nat → Bool} (h : k.1 ≠ 4) : mkE B cy n q k hi hl hb = mkE B cy n' q k hi hl hb := by
  obtain ⟨a, b⟩ := k
  match a, h with
  | 0, _ => rfl
  | 1, _ => rfl
  | 2, _ => rfl
  | 3, _ => rfl
  | 4, h => exact absurd rfl h
  | 5, _ => rfl
  | _ + 6, _ => rfl
abbrev tkL (B : Nat) (cy : Nat → ClassId) (nT : Nat) (a1 : Int32) : List va_E := [.inr (6, [.int a1, .int 0, .int 0, .int 0, .int 0, .int 0, .int (-1), .int (-1), .int (-1), .int 0, .int 0, .long 0, .int 0, .int 0, .ref (B + (nxOf nT + 1)), .ref (B + (nxOf nT + 2)), .int 0, .ref (B + (nxOf nT + 3))]), .inl (cy 0, 6, .inl (fun _ => 0)), .inl (cy 0, 6, .inl (fun _ => 0)), .inl (cy 1, 8, .inr (.inl (fun _ => 0)))]
theorem em_old {B : Nat} {cy : Nat → ClassId} {nT : Nat} {M : Mem} {a1 : Int32} {q : Nat} (h : q < nxOf nT) (h2 : q ≠ 26) : EM B cy (nT + 1) (nwT M (189 + 4 * nT) a1) q = EM B cy nT M q := by
  unfold nxOf at h
  have e1 : (nwT M (189 + 4 * nT) a1).1 q = M.1 q := by
    show (if q = 189 + 4 * nT then _ else if q = 189 + 4 * nT + 1 ∨ q = 189 + 4 * nT + 2 then _ else M.1 q) = _
    rw [if_neg (by omega), if_neg (by omega)]
  have e2 : (nwT M (189 + 4 * nT) a1).2.1 q = M.2.1 q := by
    show (if q = 189 + 4 * nT ∨ q = 189 + 4 * nT + 3 then _ else M.2.1 q) = _
    rw [if_neg (by omega)]
  unfold EM
  rw [e1, e2]
  refine mkE_nT ?_
  rcases Nat.lt_or_ge q 189 with z | z
  · exact kd4 q z h2
  · unfold kd
    rw [if_neg (by omega)]
    rcases (show (q - 189) % 4 = 0 ∨ (q - 189) % 4 = 1 ∨ (q - 189) % 4 = 2 ∨ (q - 189) % 4 = 3 by omega) with z | z | z | z <;> rw [z] <;> decide
theorem sub_pic {G : va_G} {B : Nat} {cy : Nat → ClassId} {nT : Nat} {M : Mem} {a1 : Int32} {H : Heap} (h : PT G B ((csM B cy nT M ++ tkL B cy nT a1).set 26 (.inl (cy 3, 20, .inr (.inr (.inr (.inr (va_up (fun t => if t < nT then some (B + (189 + 4 * t)) else none) nT (some (B + nxOf nT))))))))) H) : Pic G B cy (nT + 1) (nwT M (189 + 4 * nT) a1) H := by
  have hnx : nxOf (nT + 1) = nxOf nT + 4 := by unfold nxOf; omega
  refine h.Pic (by rw [List.length_set, List.length_append, csM_len, hnx]; rfl) (fun q hq e he ha => ?_)
  rw [List.getElem?_set] at he
  by_cases h26 : 26 = q
  · subst h26
    have hl : 26 < (csM B cy nT M ++ tkL B cy nT a1).length := by
      rw [List.length_append, csM_len]
      unfold nxOf
      omega
    rw [if_pos rfl, if_pos hl] at he
    cases he
    rw [em_r4 (n := 20) (by decide +kernel)]
    show H[B + 26]? = some (vp_cell (cy 3) (20, .inr (.inr (.inr (.inr _)))))
    have ha : H[B + 26]? = some (vp_cell (cy 3) (20, .inr (.inr (.inr (.inr (va_up (fun t => if t < nT then some (B + (189 + 4 * t)) else none) nT (some (B + nxOf nT)))))))) := ha
    rw [ha, vp_cell_q, vp_cell_q]
    refine congrArg some (arrV_cg fun j _ => congrArg va_rf ?_)
    unfold va_up
    by_cases h1 : j = nT
    · subst h1
      rw [if_pos rfl, if_pos (by omega)]
      rfl
    · rw [if_neg h1]
      dsimp only
      by_cases h2 : j < nT
      · rw [if_pos h2, if_pos (by omega)]
      · rw [if_neg h2, if_neg (by omega)]
  · rw [if_neg h26] at he
    rcases Nat.lt_or_ge q (nxOf nT) with hlt | hge
    · rw [List.getElem?_append_left (by rw [csM_len]; exact hlt), csM_get hlt] at he
      cases he
      rw [em_old hlt (fun z => h26 z.symm)]
      exact ha
    · rw [List.getElem?_append_right (by rw [csM_len]; exact hge), csM_len] at he
      have hz : 189 + 4 * nT = nxOf nT := rfl
      rcases (show q = nxOf nT + 0 ∨ q = nxOf nT + 1 ∨ q = nxOf nT + 2 ∨ q = nxOf nT + 3 by omega) with rfl | rfl | rfl | rfl
      · rw [Nat.add_sub_cancel_left] at he
        cases he
        rw [em_f (ci := 6) (q := nxOf nT + 0) (kT_0 (nT := nT + 1) ⟨nT, by omega, rfl⟩).2]
        have e1 : (nwT M (189 + 4 * nT) a1).1 (nxOf nT + 0) = tkI a1 := by
          show (if nxOf nT + 0 = 189 + 4 * nT then _ else _) = _
          exact if_pos (show nxOf nT + 0 = 189 + 4 * nT from rfl)
        have e2 : (nwT M (189 + 4 * nT) a1).2.1 (nxOf nT + 0) = (fun _ => 0) := by
          show (if nxOf nT + 0 = 189 + 4 * nT ∨ _ then _ else _) = _
          exact if_pos (Or.inl (show nxOf nT + 0 = 189 + 4 * nT from rfl))
        rw [e1, e2]
        exact ha
      · rw [Nat.add_sub_cancel_left] at he
        cases he
        rw [em_r0 (n := 6) (q := nxOf nT + 1) (kT_1 (nT := nT + 1) ⟨nT, by omega, rfl⟩).2]
        have e1 : (nwT M (189 + 4 * nT) a1).1 (nxOf nT + 1) = (fun _ => 0) := by
          show (if nxOf nT + 1 = 189 + 4 * nT then _ else if nxOf nT + 1 = 189 + 4 * nT + 1 ∨ _ then _ else _) = _
          rw [if_neg (by unfold nxOf; omega), if_pos (by unfold nxOf; omega)]
        rw [e1]
        exact ha
      · rw [Nat.add_sub_cancel_left] at he
        cases he
        rw [em_r0 (n := 6) (q := nxOf nT + 2) (kT_2 (nT := nT + 1) ⟨nT, by omega, rfl⟩).2]
        have e1 : (nwT M (189 + 4 * nT) a1).1 (nxOf nT + 2) = (fun _ => 0) := by
          show (if nxOf nT + 2 = 189 + 4 * nT then _ else if nxOf nT + 2 = 189 + 4 * nT + 1 ∨ nxOf nT + 2 = 189 + 4 * nT + 2 then _ else _) = _
          rw [if_neg (by unfold nxOf; omega), if_pos (by unfold nxOf; omega)]
        rw [e1]
        exact ha
      · rw [Nat.add_sub_cancel_left] at he
        cases he
        rw [em_r1 (n := 8) (q := nxOf nT + 3) (kT_3 (nT := nT + 1) ⟨nT, by omega, rfl⟩).2]
        have e1 : (nwT M (189 + 4 * nT) a1).2.1 (nxOf nT + 3) = (fun _ => 0) := by
          show (if nxOf nT + 3 = 189 + 4 * nT ∨ nxOf nT + 3 = 189 + 4 * nT + 3 then _ else _) = _
          exact if_pos (by unfold nxOf; omega)
        rw [e1]
        exact ha
def PUS (G : va_G) (B : Nat) (cy : Nat → ClassId) (nT : Nat) (M : Mem) (U : State) : Prop := PU G B cy nT M U ∧ AO3 U
theorem PUS.blind {G : va_G} {B : Nat} {cy : Nat → ClassId} {nT : Nat} {M : Mem} {av : List Value} : FrameBlind (va_Pc av (PUS G B cy nT M)) := fun a U g mk q => ⟨q.1, (PU.blind (av := av) a U g mk ⟨q.1, q.2.1⟩).2, AO3.moved (u := U) (U := U.calling g mk a) (Vm.Alike.refl U.vm) q.2.2⟩
abbrev rmX8_submit : Room := { frames := 3, cells := 4, slots := 38, locals := 120 }
set_option maxRecDepth 100000 in
set_option maxHeartbeats 4000000 in
theorem c_X8_submit {l : Launch} {G : va_G} {cy : Nat → ClassId} {B nT : Nat} {M : Mem} {a1 : Int32} {out : Int32 × Mem × Nat} (h : f_X8_submit nT M a1 = some out) : Met l yX8_submit (wsU yX8_submit cX8_submit 2 (some .int)) rmX8_submit (va_Pc [.ref (B + 0), .int a1] (PUS G B cy nT M)) (Qi G B cy out.2.2 out.1 out.2.1) 4 38 (FB B) := by
  refine Met.ofW (cc := cX8_submit) (maxL := 2) (ret := some .int) (by decide +kernel) rfl ?_
  intro p e s m args below meth c s₁ Bd hml hv
  obtain ⟨rfl, ⟨hP, hK⟩, hO⟩ := hv
  have hts := atoms_spec (ws := wsU yX8_submit cX8_submit 2 (some .int)) Bd.pre
  have hown : s.vm.findClass RX8 = some m.cls := findClass_of_methodNamed Bd.named
  have hl := lv_entry [.ref (B + 0), .int a1] (n := 2) (Nat.le_of_ble_eq_true rfl)
  rw [lg_entry_eq]
  have X : Cx p s m _ meth c cX8_submit RX8 2 (some .int) G cy := ⟨Bd.exec, Bd.bytes, Bd.returns, hml, hown, fun w h => hts w (List.mem_cons_of_mem _ h), hK, Bd.notSynchronized⟩
  clear hts hown
  generalize (lg_sl [.ref (B + 0), .int a1] ++ List.replicate (2 - (lg_sl [.ref (B + 0), .int a1]).length) Slot.unset).toArray = ls at hl ⊢
  have hl : lv_has ls 2 [(0, .ref (B + 0)), (1, .int a1)] := hl
  have hS : va_S (FB B) s.heap s.heap [] := va_S.rf
  obtain ⟨hx, hb, hr, hml, hown, hts, hKn, hlk⟩ := id X
  unfold f_X8_submit at h
  refine lv_iload_n hx hb dX8_submit_0 rfl (lv_at hl 1 rfl) ?_
  obtain ⟨r_1, h_1, h⟩ := bd_el h
  refine cl_i (rn_S (R := rmX8_submit) X hP (c_X8_isTrade h_1) k_254 k_255 k_1 k_256 hd_X8_isTrade (n := 1) ⟨⟨rfl, rfl⟩, Nat.le_of_ble_eq_true rfl, Nat.le_of_ble_eq_true rfl⟩ (As := [.int a1]) (rest := []) rfl hl.1 rfl (Nat.le_of_ble_eq_true rfl) dX8_submit_1 ⟨Nat.zero_le _, Nat.zero_le _⟩) hS (fun H locs hP hS => ?_)
  refine lv_if_ne (tgt := 10) hx hb dX8_submit_4 (by decide) (fun hc => ?_) (fun hc => ?_)
  · replace h := if_eln h hc
    refine lv_aload_n hx hb dX8_submit_10 rfl (lv_at hl 0 rfl) ?_
    refine gf_X8_151 X hP dX8_submit_11 ?_
    refine lv_bipush (v := 20) hx hb dX8_submit_14 (by decide) ?_
    refine lv_icmp_lt (tgt := 22) hx hb dX8_submit_16 (by decide) (fun hc => ?_) (fun hc => ?_)
    · replace h := if_elp h hc
      obtain ⟨g_1, h⟩ := gd_el h
      obtain ⟨g_2, h⟩ := gd_el h
      have g_1 : gI M 0 8 = nI nT := by simpa using g_1
      have g_2 : nT < 20 := of_decide_eq_true g_2
      obtain ⟨M_1, e_1, h⟩ := lt_el h
      obtain ⟨M_2, e_2, h⟩ := lt_el h
      refine lv_aload_n hx hb dX8_submit_22 rfl (lv_at hl 0 rfl) ?_
      refine gf_X8_39 X hP dX8_submit_23 ?_
      refine lv_aload_n hx hb dX8_submit_26 rfl (lv_at hl 0 rfl) ?_
      refine gf_X8_151 X hP dX8_submit_27 ?_
      have hT := hP.PT
      have hT : PT G B (csM B cy nT M ++ []) H := by rw [List.append_nil]; exact hT
      have hq : (csM B cy nT M).length = nxOf nT := csM_len
      refine e_new (C := RX6) (T := TX6) (N := 18) (ci := 6) X hT hq hS inA6 tyX6 tyX6_ok k_102 k_292 k_10 rfl [.int 0, .int 0, .int 0, .int 0, .int 0, .int 0, .int 0, .int 0, .int 0, .int 0, .int 0, .long 0, .int 0, .int 0, .null, .null, .int 0, .null] (fun j hj => by rcases (show j = 0 ∨ j = 1 ∨ j = 2 ∨ j = 3 ∨ j = 4 ∨ j = 5 ∨ j = 6 ∨ j = 7 ∨ j = 8 ∨ j = 9 ∨ j = 10 ∨ j = 11 ∨ j = 12 ∨ j = 13 ∨ j = 14 ∨ j = 15 ∨ j = 16 ∨ j = 17 by omega) with rfl | rfl | rfl | rfl | rfl | rfl | rfl | rfl | rfl | rfl | rfl | rfl | rfl | rfl | rfl | rfl | rfl | rfl <;> rfl) (n := 0) rfl (Nat.le_of_ble_eq_true rfl) (Nat.le_of_ble_eq_true rfl) dX8_submit_30 (fun H hT hS => ?_)
      refine lv_dup hx hb dX8_submit_33 rfl ?_
      refine lv_iload_n hx hb dX8_submit_34 rfl (lv_at hl 1 rfl) ?_
      refine e_ini (a := B + (nxOf nT + 0)) X hO hT hS (c_X6_init hq) k_293 k_294 k_10 k_295 rfl hd_X6_init ⟨⟨rfl, rfl⟩, Nat.le_of_ble_eq_true rfl, Nat.le_of_ble_eq_true rfl⟩ (As := [.int a1]) (rest := [.ref (B + (nxOf nT + 0)), .int (gI M 0 8), .ref (B + 26), .ref (B + 0)].take 3) rfl hl.1 rfl (Nat.le_of_ble_eq_true rfl) dX8_submit_35 ⟨Nat.le_of_ble_eq_true rfl, Nat.le_of_ble_eq_true rfl⟩ (fun H locs hT hS => ?_)
      have g26 : 26 < nxOf nT := by unfold nxOf; omega
      have hg : (gI M 0 8).toNatClampNeg = nT := by rw [g_1, nI_clamp (by omega)]
      refine e_aastG (a := 3) (ci := 6) (r := (RX6, TX6, 18)) (n := 20) (f := fun t => if t < nT then some (B + (189 + 4 * t)) else none) (jv := nxOf nT + 0) X hT hS 26 (by rw [List.getElem?_append_left (by rw [csM_len]; exact g26), csM_get g26, em_r4 (n := 20) (by decide +kernel)]) rfl (by rw [ap_get hq]; rfl) rfl (by rw [g_1]; exact inR_nI g_2 (by decide)) dX8_submit_38 (fun H locs hT hS => ?_)
      rw [hg] at hT
      have hP := sub_pic hT
      rw [← e_1] at hP
      refine lv_aload_n hx hb dX8_submit_39 rfl (lv_at hl 0 rfl) ?_
      refine lv_dup hx hb dX8_submit_40 rfl ?_
      refine gf_X8_151 X hP dX8_submit_41 ?_
      refine lv_iconst (v := 1) hx hb dX8_submit_44 (by decide) ?_
      refine lv_iadd hx hb dX8_submit_45 ?_
      refine pf_X8_151 X hP hS e_2 dX8_submit_46 (fun H locs hP hS => ?_)
      refine lv_aload_n hx hb dX8_submit_49 rfl (lv_at hl 0 rfl) ?_
      refine gf_X8_151 X hP dX8_submit_50 ?_
      refine lv_iconst (v := 1) hx hb dX8_submit_53 (by decide) ?_
      refine lv_isub hx hb dX8_submit_54 ?_
      cases h
      refine W.widen (k := 4) (n := 38) (Nat.le_of_ble_eq_true rfl) (Nat.le_of_ble_eq_true rfl) ?_
      exact r_iret X hP hS rfl rfl dX8_submit_55
    · replace h := if_eln h hc
      refine lv_bipush (v := (-3)) hx hb dX8_submit_19 (by decide) ?_
      cases h
      refine W.widen (k := 4) (n := 38) (Nat.le_of_ble_eq_true rfl) (Nat.le_of_ble_eq_true rfl) ?_
      exact r_iret X hP hS rfl rfl dX8_submit_21
  · replace h := if_elp h hc
    refine lv_bipush (v := (-2)) hx hb dX8_submit_7 (by decide) ?_
    cases h
    refine W.widen (k := 4) (n := 38) (Nat.le_of_ble_eq_true rfl) (Nat.le_of_ble_eq_true rfl) ?_
    exact r_iret X hP hS rfl rfl dX8_submit_9

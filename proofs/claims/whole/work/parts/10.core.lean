/-! THE STORE. One list of words for all methods: the law's. Cells are named by their order of making: cell q lies at B + q; 0 .. 118 are the system's, 119 .. 188 the reference's, from 189 on four for each ticket. A store M = (ints, longs, bools); nT tickets have been made. -/
def wsU (y : MethodName) (b : ByteArray) (n : Nat) (r : Option FieldType) : List Cond := Cond.code y b n r :: wsA
theorem allGood : wsA.all goodWord = true := List.all_eq_true.mpr fun _ h => (List.mem_filter.mp h).2
theorem goodU {y : MethodName} {b : ByteArray} {n : Nat} {r : Option FieldType} (h : Cond.code y b n r ∈ wsA) : GoodIn wsA (wsU y b n r) := by
  intro w hw
  have hm : w ∈ wsA := by
    rcases List.mem_cons.mp hw with e | e
    · rw [e]; exact h
    · exact e
  exact ⟨hm, good_of_word (List.all_eq_true.mp allGood w hm)⟩
theorem goodV {own C : String} {idx : Nat} {y : MethodName} {b : ByteArray} {n : Nat} {r : Option FieldType} (h1 : Cond.methodLink own idx y ∈ wsA) (h2 : Cond.instanceMethod y ∈ wsA) (h3 : Cond.selects C y y ∈ wsA) (h4 : Cond.initialized C ∈ wsA) (h5 : Cond.code y b n r ∈ wsA) : GoodIn wsA (wsV own idx C y (wsU y b n r)) := by
  intro w hw
  have hm : w ∈ wsA := by
    unfold wsV at hw
    rcases List.mem_append.mp hw with e | e
    · simp only [List.mem_cons, List.not_mem_nil, or_false] at e
      rcases e with e | e | e | e <;> rw [e] <;> assumption
    · exact (goodU h5 w e).1
  exact ⟨hm, good_of_word (List.all_eq_true.mp allGood w hm)⟩
theorem goodS {own : String} {idx : Nat} {y : MethodName} {b : ByteArray} {n : Nat} {r : Option FieldType} (h1 : Cond.methodLink own idx y ∈ wsA) (h2 : Cond.static y ∈ wsA) (h4 : Cond.initialized own ∈ wsA) (h5 : Cond.code y b n r ∈ wsA) : GoodIn wsA (wsS own idx y (wsU y b n r)) := by
  intro w hw
  have hm : w ∈ wsA := by
    unfold wsS at hw
    rcases List.mem_append.mp hw with e | e
    · simp only [List.mem_cons, List.not_mem_nil, or_false] at e
      rcases e with e | e | e <;> rw [e] <;> assumption
    · exact (goodU h5 w e).1
  exact ⟨hm, good_of_word (List.all_eq_true.mp allGood w hm)⟩
abbrev Mem : Type := (Nat → Nat → Int32) × (Nat → Nat → Int64) × (Nat → Nat → Bool)
def gI (M : Mem) (q i : Nat) : Int32 := M.1 q i
def gL (M : Mem) (q i : Nat) : Int64 := M.2.1 q i
def gB (M : Mem) (q i : Nat) : Bool := M.2.2 q i
def up2 {α : Type} (f : Nat → Nat → α) (q i : Nat) (v : α) : Nat → Nat → α := fun q' i' => if q' = q then (if i' = i then v else f q' i') else f q' i'
def sI (M : Mem) (q i : Nat) (v : Int32) : Mem := (up2 M.1 q i v, M.2.1, M.2.2)
def sL (M : Mem) (q i : Nat) (v : Int64) : Mem := (M.1, up2 M.2.1 q i v, M.2.2)
def sB (M : Mem) (q i : Nat) (v : Bool) : Mem := (M.1, M.2.1, up2 M.2.2 q i v)
/-- a row of ints (longs) copied into another row -/
def cpI (M : Mem) (a sp b dp n : Nat) : Mem := (va_up M.1 b (va_cpy (M.1 a) (M.1 b) sp dp n), M.2.1, M.2.2)
def cpL (M : Mem) (a sp b dp n : Nat) : Mem := (M.1, va_up M.2.1 b (va_cpy (M.2.1 a) (M.2.1 b) sp dp n), M.2.2)
def bI (b : Bool) : Int32 := if b then 1 else 0
def iB (x : Int32) : Bool := vp_nar .boolean x != 0
/-- guards, names -/
def inR (i : Int32) (n : Nat) : Bool := !(decide (i < 0) || decide (n ≤ i.toNatClampNeg))
def gd {α : Type} (b : Bool) (x : Option α) : Option α := match b with
  | true => x
  | false => none
def lt {α β : Type} (a : α) (k : α → Option β) : Option β := k a
theorem gd_el {α : Type} {b : Bool} {x : Option α} {y : α} (h : gd b x = some y) : b = true ∧ x = some y := by
  cases b with
  | true => exact ⟨rfl, h⟩
  | false => cases h
theorem lt_el {α β : Type} {a : α} {k : α → Option β} {y : β} (h : lt a k = some y) : ∃ z, z = a ∧ k z = some y := ⟨a, rfl, h⟩
theorem bd_el {α β : Type} {o : Option α} {k : α → Option β} {y : β} (h : o.bind k = some y) : ∃ z, o = some z ∧ k z = some y := by
  cases o with
  | none => cases h
  | some z => exact ⟨z, rfl, h⟩
theorem if_elp {α : Type} {c : Prop} {d : Decidable c} {x y : Option α} {z : α} (h : (@ite _ c d x y) = some z) (hc : c) : x = some z := by rw [if_pos hc] at h; exact h
theorem if_eln {α : Type} {c : Prop} {d : Decidable c} {x y : Option α} {z : α} (h : (@ite _ c d x y) = some z) (hc : ¬ c) : y = some z := by rw [if_neg hc] at h; exact h
theorem inR_vp {i : Int32} {n : Nat} (h : inR i n = true) : vp_in i n := by
  unfold inR at h
  unfold vp_in
  intro q
  rcases q with q | q <;> simp [q] at h
theorem inR_lt {i : Int32} {n : Nat} (h : inR i n = true) : i.toNatClampNeg < n := by
  have := inR_vp h
  unfold vp_in at this
  omega
def kindL : List (Nat × Nat) := [(3, 8), (3, 5), (3, 1), (0, 40), (1, 40), (0, 40), (0, 40), (0, 40), (0, 40), (0, 480), (0, 40), (3, 7), (0, 16), (0, 16), (0, 384), (0, 384), (0, 384), (3, 4), (0, 10), (0, 10), (0, 10), (1, 10), (3, 3), (0, 40), (0, 40), (1, 40), (4, 20), (5, 4), (6, 6), (3, 2), (3, 1), (0, 40), (1, 40), (0, 40), (0, 40), (3, 2), (3, 1), (0, 40), (1, 40), (0, 40), (0, 40), (3, 2), (3, 1), (0, 40), (1, 40), (0, 40), (0, 40), (3, 2), (3, 1), (0, 40), (1, 40), (0, 40), (0, 40), (3, 2), (3, 1), (0, 40), (1, 40), (0, 40), (0, 40), (3, 2), (3, 1), (0, 40), (1, 40), (0, 40), (0, 40), (3, 0), (3, 1), (0, 40), (1, 40), (0, 40), (0, 40), (0, 6), (0, 6), (1, 8), (0, 40), (0, 40), (1, 40), (3, 0), (3, 1), (0, 40), (1, 40), (0, 40), (0, 40), (0, 6), (0, 6), (1, 8), (0, 40), (0, 40), (1, 40), (3, 0), (3, 1), (0, 40), (1, 40), (0, 40), (0, 40), (0, 6), (0, 6), (1, 8), (0, 40), (0, 40), (1, 40), (3, 0), (3, 1), (0, 40), (1, 40), (0, 40), (0, 40), (0, 6), (0, 6), (1, 8), (0, 40), (0, 40), (1, 40), (3, 1), (0, 40), (1, 40), (0, 40), (0, 40), (0, 20), (3, 9), (0, 40), (1, 40), (0, 40), (0, 40), (0, 40), (0, 40), (0, 40), (0, 480), (0, 16), (0, 384), (0, 384), (0, 384), (0, 16), (0, 10), (0, 10), (0, 10), (1, 10), (0, 20), (0, 20), (0, 20), (0, 20), (0, 20), (0, 20), (0, 20), (0, 20), (0, 20), (1, 160), (0, 20), (2, 20), (0, 20), (0, 20), (2, 800), (0, 20), (0, 120), (0, 120), (0, 20), (0, 40), (0, 40), (1, 40), (0, 4), (0, 4), (0, 4), (0, 4), (2, 160), (0, 160), (1, 160), (0, 160), (0, 160), (2, 160), (0, 160), (0, 4), (1, 32), (0, 4), (0, 160), (0, 160), (1, 160), (0, 4), (0, 24), (0, 24), (0, 24), (1, 24), (0, 24), (0, 24), (2, 240), (0, 240), (1, 240), (0, 240), (0, 240), (0, 4)]
def kd (q : Nat) : Nat × Nat := if q < 189 then kindL.getD q (0, 0) else match (q - 189) % 4 with
  | 0 => (3, 6)
  | 1 => (0, 6)
  | 2 => (0, 6)
  | _ => (1, 8)
def objF (B q ci : Nat) (hi : Nat → Int32) (hl : Nat → Int64) : List Value := match ci with
  | 0 => [.ref (B + (11)), .ref (B + (28)), .ref (B + (q + 1)), .int (hi 3), .int (hi 4), .int (hi 5), .long (hl 6), .long (hl 7), .long (hl 8), .int (hi 9), .int (hi 10), .ref (B + (q + 6)), .ref (B + (q + 7)), .int (hi 13), .ref (B + (q + 8)), .int (hi 15), .ref (B + (q + 9)), .ref (B + (q + 10)), .ref (B + (q + 11))]
  | 1 => [.ref (B + (q + 1)), .ref (B + (q + 2)), .ref (B + (q + 3)), .ref (B + (q + 4))]
  | 2 => [.ref (B + (q + 1)), .long (hl 1), .long (hl 2), .int (hi 3), .int (hi 4)]
  | 3 => [.ref (B + (23)), .ref (B + (24)), .ref (B + (25)), .int (hi 3)]
  | 4 => [.ref (B + (18)), .ref (B + (19)), .ref (B + (20)), .ref (B + (21)), .int (hi 4)]
  | 5 => [.ref (B + (2)), .ref (B + (7)), .ref (B + (8)), .ref (B + (9)), .ref (B + (10))]
  | 6 => [.int (hi 0), .int (hi 1), .int (hi 2), .int (hi 3), .int (hi 4), .int (hi 5), .int (hi 6), .int (hi 7), .int (hi 8), .int (hi 9), .int (hi 10), .long (hl 11), .int (hi 12), .int (hi 13), .ref (B + (q + 1)), .ref (B + (q + 2)), .int (hi 16), .ref (B + (q + 3))]
  | 7 => [.ref (B + (12)), .ref (B + (13)), .ref (B + (14)), .ref (B + (15)), .ref (B + (16))]
  | 8 => [.ref (B + (1)), .ref (B + (11)), .ref (B + (17)), .ref (B + (22)), .ref (B + (26)), .ref (B + (27)), .ref (B + (113)), .ref (B + (118)), .int (hi 8), .int (hi 9), .int (hi 10), .int (hi 11), .int (hi 12), .long (hl 13)]
  | _ => [.ref (B + (120)), .ref (B + (121)), .ref (B + (122)), .ref (B + (123)), .ref (B + (124)), .ref (B + (125)), .ref (B + (126)), .ref (B + (127)), .ref (B + (128)), .ref (B + (129)), .ref (B + (130)), .ref (B + (131)), .ref (B + (132)), .int (hi 13), .ref (B + (133)), .ref (B + (134)), .ref (B + (135)), .ref (B + (136)), .int (hi 18), .ref (B + (137)), .ref (B + (138)), .ref (B + (139)), .ref (B + (140)), .ref (B + (141)), .ref (B + (142)), .ref (B + (143)), .ref (B + (144)), .ref (B + (145)), .ref (B + (146)), .ref (B + (147)), .ref (B + (148)), .ref (B + (149)), .ref (B + (150)), .ref (B + (151)), .ref (B + (152)), .ref (B + (153)), .ref (B + (154)), .int (hi 37), .int (hi 38), .ref (B + (155)), .int (hi 40), .int (hi 41), .int (hi 42), .ref (B + (156)), .ref (B + (157)), .ref (B + (158)), .int (hi 46), .long (hl 47), .int (hi 48), .ref (B + (159)), .ref (B + (160)), .ref (B + (161)), .ref (B + (162)), .ref (B + (163)), .ref (B + (164)), .ref (B + (165)), .ref (B + (166)), .ref (B + (167)), .ref (B + (168)), .ref (B + (169)), .ref (B + (170)), .ref (B + (171)), .ref (B + (172)), .ref (B + (173)), .ref (B + (174)), .ref (B + (175)), .ref (B + (176)), .ref (B + (177)), .ref (B + (178)), .ref (B + (179)), .ref (B + (180)), .ref (B + (181)), .ref (B + (182)), .ref (B + (183)), .ref (B + (184)), .ref (B + (185)), .ref (B + (186)), .ref (B + (187)), .int (hi 78), .int (hi 79), .ref (B + (188)), .int (hi 81)]
def mkE (B : Nat) (cy : Nat → ClassId) (nT q : Nat) (k : Nat × Nat) (hi : Nat → Int32) (hl : Nat → Int64) (hb : Nat → Bool) : va_E := match k.1 with
  | 0 => .inl (cy 0, k.2, .inl hi)
  | 1 => .inl (cy 1, k.2, .inr (.inl hl))
  | 2 => .inl (cy 2, k.2, .inl (fun i => bI (hb i)))
  | 3 => .inr (k.2, objF B q k.2 hi hl)
  | 4 => .inl (cy 3, k.2, .inr (.inr (.inr (.inr (fun t => if t < nT then some (B + (189 + 4 * t)) else none)))))
  | 5 => .inl (cy 4, k.2, .inr (.inr (.inr (.inr (fun j => some (B + (65 + 12 * j)))))))
  | _ => .inl (cy 5, k.2, .inr (.inr (.inr (.inr (fun j => some (B + (29 + 6 * j)))))))
def tysOf (cy : Nat → ClassId) : List (ClassId × FieldType) := [(cy 0, .int), (cy 1, .long), (cy 2, .boolean), (cy 3, .object RX6), (cy 4, .object RX0), (cy 5, .object RX2)]
def nxOf (nT : Nat) : Nat := 189 + 4 * nT
def EM (B : Nat) (cy : Nat → ClassId) (nT : Nat) (M : Mem) (q : Nat) : va_E := mkE B cy nT q (kd q) (M.1 q) (M.2.1 q) (M.2.2 q)
def WM (B : Nat) (cy : Nat → ClassId) (nT : Nat) (M : Mem) : va_W := (List.range (nxOf nT)).map (fun q => (B + q, EM B cy nT M q))
/-- the heap from B on is the store -/
def Pic (G : va_G) (B : Nat) (cy : Nat → ClassId) (nT : Nat) (M : Mem) (H : Heap) : Prop := H.size = B + nxOf nT ∧ va_P G vwCl (WM B cy nT M) H
def FB (B : Nat) : Nat → Prop := fun q => B ≤ q
/-- what the tables say of calls between nest mates -/
def nestT : List (String × Nat × MethodName × String) := [("SeedExchange", 18, ⟨"SeedExchange$Trades", "<init>", "()V"⟩, "SeedExchange"), ("SeedExchange", 25, ⟨"SeedExchange$Rules", "<init>", "()V"⟩, "SeedExchange"), ("SeedExchange", 32, ⟨"SeedExchange$Notes", "<init>", "()V"⟩, "SeedExchange"), ("SeedExchange", 51, ⟨"SeedExchange$Mark", "<init>", "()V"⟩, "SeedExchange"), ("SeedExchange$Trades", 27, ⟨"SeedExchange", "isCell", "(J)Z"⟩, "SeedExchange"), ("SeedExchange$Trades", 31, ⟨"SeedExchange", "isTrade", "(I)Z"⟩, "SeedExchange"), ("SeedExchange$Rules", 25, ⟨"SeedExchange", "isCell", "(J)Z"⟩, "SeedExchange"), ("SeedExchange$Rules", 29, ⟨"SeedExchange", "isKind", "(I)Z"⟩, "SeedExchange"), ("SeedExchange$Rules", 33, ⟨"SeedExchange", "isGrower", "(I)Z"⟩, "SeedExchange"), ("SeedExchange", 314, ⟨"SeedExchange$Attempt", "doTrade", "(II)I"⟩, "SeedExchange"), ("SeedExchange$Attempt", 178, ⟨"SeedExchange", "faultOfPart", "(JJ)I"⟩, "SeedExchange"), ("SeedExchange$Attempt", 140, ⟨"SeedExchange", "isCell", "(J)Z"⟩, "SeedExchange"), ("SeedExchange$Cells", 31, ⟨"SeedExchange", "isAmong", "(JI)Z"⟩, "SeedExchange"), ("SeedExchange$Shelf", 44, ⟨"SeedExchange", "isAmong", "(JI)Z"⟩, "SeedExchange")]
def NestOK (U : State) : Prop := ∀ q ∈ nestT, va_Nw (.methodLinkNest q.1 q.2.1 q.2.2.1 q.2.2.2) U
def Kn (G : va_G) (cy : Nat → ClassId) (U : State) : Prop := va_K G vwCl (tysOf cy) U ∧ NestOK U
theorem Kn.warm {G : va_G} {cy : Nat → ClassId} {s U : State} (h : Kn G cy s) (hW : s.WarmedH U.vm) : Kn G cy U := ⟨va_K.moved hW.alike h.1, fun q hq => va_Nw.warmM hW (h.2 q hq)⟩
def PU (G : va_G) (B : Nat) (cy : Nat → ClassId) (nT : Nat) (M : Mem) (U : State) : Prop := Pic G B cy nT M U.heap ∧ Kn G cy U
theorem PU.blind {G : va_G} {B : Nat} {cy : Nat → ClassId} {nT : Nat} {M : Mem} {av : List Value} : FrameBlind (va_Pc av (PU G B cy nT M)) := fun a U g mk q => ⟨q.1, q.2.1, va_K.moved (u := U) (U := U.calling g mk a) (Vm.Alike.refl U.vm) q.2.2.1, fun x hx => va_Nw.same rfl rfl (q.2.2.2 x hx)⟩
theorem wm_get {B : Nat} {cy : Nat → ClassId} {nT : Nat} {M : Mem} {q : Nat} (h : q < nxOf nT) : (WM B cy nT M)[q]? = some (B + q, EM B cy nT M q) := by
  unfold WM
  rw [List.getElem?_map, List.getElem?_range h]
  rfl
theorem wm_lt {B : Nat} {cy : Nat → ClassId} {nT : Nat} {M : Mem} {q : Nat} {x : Nat × va_E} (h : (WM B cy nT M)[q]? = some x) : q < nxOf nT ∧ x = (B + q, EM B cy nT M q) := by
  have hl : q < nxOf nT := by
    have := (List.getElem?_eq_some_iff.mp h).1
    unfold WM at this
    simpa using this
  rw [wm_get hl] at h
  exact ⟨hl, (Option.some.inj h).symm⟩
theorem wm_D {B : Nat} {cy : Nat → ClassId} {nT : Nat} {M : Mem} : va_D (FB B) (WM B cy nT M) := by
  refine ⟨fun i j x y hi hj he => ?_, fun k x hk => ?_⟩
  · rw [(wm_lt hi).2, (wm_lt hj).2] at he
    simpa using he
  · rw [(wm_lt hk).2]
    exact Nat.le_add_right _ _
theorem wm_set {B : Nat} {cy : Nat → ClassId} {nT : Nat} {M M' : Mem} {q : Nat} {e : va_E} (he : EM B cy nT M' q = e) (ho : ∀ q', q' ≠ q → EM B cy nT M' q' = EM B cy nT M q') : (WM B cy nT M).set q (B + q, e) = WM B cy nT M' := by
  apply List.ext_getElem?
  intro i
  by_cases hi : i < nxOf nT
  · rw [wm_get (M := M') hi, List.getElem?_set]
    by_cases hq : q = i
    · subst hq
      have hl : q < (WM B cy nT M).length := by unfold WM; simpa using hi
      simp [hl, he]
    · simp [hq, wm_get hi, ho i (fun z => hq z.symm)]
  · have h1 : (WM B cy nT M').length ≤ i := by unfold WM; simp; omega
    have h2 : ((WM B cy nT M).set q (B + q, e)).length ≤ i := by unfold WM; simp; omega
    rw [List.getElem?_eq_none h1, List.getElem?_eq_none h2]
theorem Pic.to {G : va_G} {B : Nat} {cy : Nat → ClassId} {nT : Nat} {M M' : Mem} {q : Nat} {e : va_E} {H H1 : Heap} (hP : Pic G B cy nT M H) (hz : H1.size = H.size) (he : EM B cy nT M' q = e) (ho : ∀ q', q' ≠ q → EM B cy nT M' q' = EM B cy nT M q') (h1 : va_P G vwCl ((WM B cy nT M).set q (B + q, e)) H1) : Pic G B cy nT M' H1 := by
  rw [wm_set he ho] at h1
  exact ⟨by rw [hz, hP.1], h1⟩
theorem up2_o {α : Type} {f : Nat → Nat → α} {q i : Nat} {v : α} {q' : Nat} (h : q' ≠ q) : up2 f q i v q' = f q' := by
  funext j
  simp [up2, h]
theorem up2_s {f : Nat → Nat → Int32} {q i : Nat} {v : Int32} : up2 f q i v q = upd (f q) i v := by
  funext j
  simp [up2, upd]
theorem up2_sl {f : Nat → Nat → Int64} {q i : Nat} {v : Int64} : up2 f q i v q = vp_updL (f q) i v := by
  funext j
  simp [up2, vp_updL]
theorem em_i {B : Nat} {cy : Nat → ClassId} {nT : Nat} {M : Mem} {q i n : Nat} {v : Int32} (hk : kd q = (0, n)) : EM B cy nT (sI M q i v) q = .inl (cy 0, n, .inl (upd (M.1 q) i v)) := by
  show mkE B cy nT q (kd q) (up2 M.1 q i v q) _ _ = _
  rw [hk, up2_s]
  rfl
theorem em_io {B : Nat} {cy : Nat → ClassId} {nT : Nat} {M : Mem} {q i : Nat} {v : Int32} (q' : Nat) (h : q' ≠ q) : EM B cy nT (sI M q i v) q' = EM B cy nT M q' := by
  show mkE B cy nT q' (kd q') (up2 M.1 q i v q') _ _ = _
  rw [up2_o h]
  rfl
theorem em_l {B : Nat} {cy : Nat → ClassId} {nT : Nat} {M : Mem} {q i n : Nat} {v : Int64} (hk : kd q = (1, n)) : EM B cy nT (sL M q i v) q = .inl (cy 1, n, .inr (.inl (vp_updL (M.2.1 q) i v))) := by
  show mkE B cy nT q (kd q) _ (up2 M.2.1 q i v q) _ = _
  rw [hk, up2_sl]
  rfl
theorem em_lo {B : Nat} {cy : Nat → ClassId} {nT : Nat} {M : Mem} {q i : Nat} {v : Int64} (q' : Nat) (h : q' ≠ q) : EM B cy nT (sL M q i v) q' = EM B cy nT M q' := by
  show mkE B cy nT q' (kd q') _ (up2 M.2.1 q i v q') _ = _
  rw [up2_o h]
  rfl
theorem nar_iB (x : Int32) : vp_nar .boolean x = bI (iB x) := by
  have e : vp_nar .boolean x = x &&& 1 := rfl
  have h : vp_nar .boolean x = 0 ∨ vp_nar .boolean x = 1 := by
    rw [e, pk_and x (m := 1) 1 (by decide +kernel)]
    rcases Nat.mod_two_eq_zero_or_one x.toBitVec.toNat with h | h
    · left; rw [show 2 ^ 1 = 2 from rfl, h]; decide +kernel
    · right; rw [show 2 ^ 1 = 2 from rfl, h]; decide +kernel
  unfold iB bI
  rcases h with h | h <;> rw [h] <;> rfl
theorem em_b {B : Nat} {cy : Nat → ClassId} {nT : Nat} {M : Mem} {q i n : Nat} {x : Int32} (hk : kd q = (2, n)) : EM B cy nT (sB M q i (iB x)) q = .inl (cy 2, n, .inl (upd (fun j => bI (M.2.2 q j)) i (vp_nar .boolean x))) := by
  have e : (fun j => bI (up2 M.2.2 q i (iB x) q j)) = upd (fun j => bI (M.2.2 q j)) i (bI (iB x)) := by
    funext j
    by_cases hj : j = i <;> simp [up2, upd, hj]
  show mkE B cy nT q (kd q) _ _ (up2 M.2.2 q i (iB x) q) = _
  rw [hk, nar_iB, ← e]
  rfl
theorem em_bo {B : Nat} {cy : Nat → ClassId} {nT : Nat} {M : Mem} {q i : Nat} {v : Bool} (q' : Nat) (h : q' ≠ q) : EM B cy nT (sB M q i v) q' = EM B cy nT M q' := by
  show mkE B cy nT q' (kd q') _ _ (up2 M.2.2 q i v q') = _
  rw [up2_o h]
  rfl
theorem em_f {B : Nat} {cy : Nat → ClassId} {nT : Nat} {M : Mem} {q ci : Nat} (hk : kd q = (3, ci)) : EM B cy nT M q = .inr (ci, objF B q ci (M.1 q) (M.2.1 q)) := by
  show mkE B cy nT q (kd q) _ _ _ = _
  rw [hk]
  rfl
theorem em_r0 {B : Nat} {cy : Nat → ClassId} {nT : Nat} {M : Mem} {q n : Nat} (hk : kd q = (0, n)) : EM B cy nT M q = .inl (cy 0, n, .inl (M.1 q)) := by
  show mkE B cy nT q (kd q) _ _ _ = _
  rw [hk]
  rfl
theorem em_r1 {B : Nat} {cy : Nat → ClassId} {nT : Nat} {M : Mem} {q n : Nat} (hk : kd q = (1, n)) : EM B cy nT M q = .inl (cy 1, n, .inr (.inl (M.2.1 q))) := by
  show mkE B cy nT q (kd q) _ _ _ = _
  rw [hk]
  rfl
theorem em_r2 {B : Nat} {cy : Nat → ClassId} {nT : Nat} {M : Mem} {q n : Nat} (hk : kd q = (2, n)) : EM B cy nT M q = .inl (cy 2, n, .inl (fun j => bI (M.2.2 q j))) := by
  show mkE B cy nT q (kd q) _ _ _ = _
  rw [hk]
  rfl
theorem em_r4 {B : Nat} {cy : Nat → ClassId} {nT : Nat} {M : Mem} {q n : Nat} (hk : kd q = (4, n)) : EM B cy nT M q = .inl (cy 3, n, .inr (.inr (.inr (.inr (fun t => if t < nT then some (B + (189 + 4 * t)) else none))))) := by
  show mkE B cy nT q (kd q) _ _ _ = _
  rw [hk]
  rfl
theorem em_r5 {B : Nat} {cy : Nat → ClassId} {nT : Nat} {M : Mem} {q n : Nat} (hk : kd q = (5, n)) : EM B cy nT M q = .inl (cy 4, n, .inr (.inr (.inr (.inr (fun j => some (B + (65 + 12 * j))))))) := by
  show mkE B cy nT q (kd q) _ _ _ = _
  rw [hk]
  rfl
theorem em_r6 {B : Nat} {cy : Nat → ClassId} {nT : Nat} {M : Mem} {q n : Nat} (hk : kd q = (6, n)) : EM B cy nT M q = .inl (cy 5, n, .inr (.inr (.inr (.inr (fun j => some (B + (29 + 6 * j))))))) := by
  show mkE B cy nT q (kd q) _ _ _ = _
  rw [hk]
  rfl
theorem wm_at {B : Nat} {cy : Nat → ClassId} {nT : Nat} {M : Mem} {q : Nat} {e : va_E} (h : q < nxOf nT) (he : EM B cy nT M q = e) : (WM B cy nT M)[q]? = some (B + q, e) := by
  rw [wm_get h, he]
def Cx (p : Program) (s : State) (m : MethodId) (args : Array Value) (meth : Method) (c : Code) (cc : ByteArray) (own : String) (nL : Nat) (rt : Option FieldType) (G : va_G) (cy : Nat → ClassId) : Prop :=
  p.tables.exec = Jvm.exec ∧ c.code = cc ∧ meth.sig.returnType = rt ∧ c.maxLocals = nL ∧ s.vm.findClass own = some m.cls ∧ (∀ w ∈ wsA, w.before args s = true) ∧ Kn G cy s ∧ meth.locks = false
def Qi (G : va_G) (B : Nat) (cy : Nat → ClassId) (nT : Nat) (r : Int32) (M : Mem) : Array Value → State → Outcome → State → Prop := va_Qi (S := Unit) (fun r' _ => r' = r) (fun _ t => Pic G B cy nT M t.heap) (FB B)
def Ql (G : va_G) (B : Nat) (cy : Nat → ClassId) (nT : Nat) (r : Int64) (M : Mem) : Array Value → State → Outcome → State → Prop := va_Ql (S := Unit) (fun r' _ => r' = r) (fun _ t => Pic G B cy nT M t.heap) (FB B)
def Qv (G : va_G) (B : Nat) (cy : Nat → ClassId) (nT : Nat) (M : Mem) : Array Value → State → Outcome → State → Prop := va_Qv (S := Unit) (fun _ => True) (fun _ t => Pic G B cy nT M t.heap) (FB B)
section ROWS
variable {p : Program} {l : Launch} {e : Env} {R : Room} {s : State} {m : MethodId} {args : Array Value} {below : List Frame} {meth : Method} {c : Code} {H : Heap} {locs : List Loc} {cells slots : Nat} {Q : State → Prop}
variable {cc : ByteArray} {own : String} {nL : Nat} {rt : Option FieldType} {G : va_G} {cy : Nat → ClassId} {B nT : Nat} {M M1 : Mem} {pc : Nat} {ls : Array Slot} {rest st0 : List Value} {q n : Nat} {i : Int32}
theorem r_topi {x y : Int32} (e1 : y = x) (k : W p l e R s m args below meth c H locs cells slots Q (F0 m pc ls (.int y :: rest))) : W p l e R s m args below meth c H locs cells slots Q (F0 m pc ls (.int x :: rest)) := e1 ▸ k
theorem r_topl {x y : Int64} (e1 : y = x) (k : W p l e R s m args below meth c H locs cells slots Q (F0 m pc ls (.long y :: rest))) : W p l e R s m args below meth c H locs cells slots Q (F0 m pc ls (.long x :: rest)) := e1 ▸ k
theorem r_iald (X : Cx p s m args meth c cc own nL rt G cy) (hP : Pic G B cy nT M H) (hq : q < nxOf nT ∧ kd q = (0, n)) (hi : inR i n = true) (hdg : decode cc pc = .ok (.iaload, 1))
    (kk : W p l e R s m args below meth c H locs cells slots Q (F0 m (pc + 1) ls (.int (gI M q i.toNatClampNeg) :: rest))) : W p l e R s m args below meth c H locs cells slots Q (F0 m pc ls (.int i :: .ref (B + q) :: rest)) :=
  va_iald X.1 X.2.1 X.2.2.2.2.2.2.1.1 hP.2 q 0 (wm_at hq.1 (em_r0 hq.2)) rfl (inR_vp hi) hdg kk
theorem r_lald (X : Cx p s m args meth c cc own nL rt G cy) (hP : Pic G B cy nT M H) (hq : q < nxOf nT ∧ kd q = (1, n)) (hi : inR i n = true) (hdg : decode cc pc = .ok (.laload, 1))
    (kk : W p l e R s m args below meth c H locs cells slots Q (F0 m (pc + 1) ls (.long (gL M q i.toNatClampNeg) :: rest))) : W p l e R s m args below meth c H locs cells slots Q (F0 m pc ls (.int i :: .ref (B + q) :: rest)) :=
  va_lald X.1 X.2.1 X.2.2.2.2.2.2.1.1 hP.2 q 1 (wm_at hq.1 (em_r1 hq.2)) rfl (inR_vp hi) hdg kk
theorem r_zald (X : Cx p s m args meth c cc own nL rt G cy) (hP : Pic G B cy nT M H) (hq : q < nxOf nT ∧ kd q = (2, n)) (hi : inR i n = true) (hdg : decode cc pc = .ok (.baload, 1))
    (kk : W p l e R s m args below meth c H locs cells slots Q (F0 m (pc + 1) ls (.int (bI (gB M q i.toNatClampNeg)) :: rest))) : W p l e R s m args below meth c H locs cells slots Q (F0 m pc ls (.int i :: .ref (B + q) :: rest)) :=
  va_zald X.1 X.2.1 X.2.2.2.2.2.2.1.1 hP.2 q 2 (wm_at hq.1 (em_r2 hq.2)) rfl (inR_vp hi) hdg kk
theorem r_aaT (X : Cx p s m args meth c cc own nL rt G cy) (hP : Pic G B cy nT M H) (hi : inR i 20 = true) (ht : decide (i.toNatClampNeg < nT) = true) (hdg : decode cc pc = .ok (.aaload, 1))
    (kk : W p l e R s m args below meth c H locs cells slots Q (F0 m (pc + 1) ls (.ref (B + (189 + 4 * i.toNatClampNeg)) :: rest))) : W p l e R s m args below meth c H locs cells slots Q (F0 m pc ls (.int i :: .ref (B + 26) :: rest)) := by
  have hq : 26 < nxOf nT ∧ kd 26 = (4, 20) := ⟨by unfold nxOf; omega, by decide +kernel⟩
  refine va_aldq X.1 X.2.1 X.2.2.2.2.2.2.1.1 hP.2 26 3 (C := RX6) (wm_at hq.1 (em_r4 hq.2)) rfl (inR_vp hi) hdg ?_
  rw [if_pos (of_decide_eq_true ht)]
  exact kk
theorem r_aaA (X : Cx p s m args meth c cc own nL rt G cy) (hP : Pic G B cy nT M H) (hi : inR i 4 = true) (hdg : decode cc pc = .ok (.aaload, 1))
    (kk : W p l e R s m args below meth c H locs cells slots Q (F0 m (pc + 1) ls (.ref (B + (65 + 12 * i.toNatClampNeg)) :: rest))) : W p l e R s m args below meth c H locs cells slots Q (F0 m pc ls (.int i :: .ref (B + 27) :: rest)) := by
  have hq : 27 < nxOf nT ∧ kd 27 = (5, 4) := ⟨by unfold nxOf; omega, by decide +kernel⟩
  exact va_aldq X.1 X.2.1 X.2.2.2.2.2.2.1.1 hP.2 27 4 (C := RX0) (wm_at hq.1 (em_r5 hq.2)) rfl (inR_vp hi) hdg kk
theorem r_aaM (X : Cx p s m args meth c cc own nL rt G cy) (hP : Pic G B cy nT M H) (hi : inR i 6 = true) (hdg : decode cc pc = .ok (.aaload, 1))
    (kk : W p l e R s m args below meth c H locs cells slots Q (F0 m (pc + 1) ls (.ref (B + (29 + 6 * i.toNatClampNeg)) :: rest))) : W p l e R s m args below meth c H locs cells slots Q (F0 m pc ls (.int i :: .ref (B + 28) :: rest)) := by
  have hq : 28 < nxOf nT ∧ kd 28 = (6, 6) := ⟨by unfold nxOf; omega, by decide +kernel⟩
  exact va_aldq X.1 X.2.1 X.2.2.2.2.2.2.1.1 hP.2 28 5 (C := RX2) (wm_at hq.1 (em_r6 hq.2)) rfl (inR_vp hi) hdg kk
theorem r_iast {x : Int32} (X : Cx p s m args meth c cc own nL rt G cy) (hP : Pic G B cy nT M H) (hS : va_S (FB B) s.heap H locs) (hq : q < nxOf nT ∧ kd q = (0, n)) (hi : inR i n = true) (eM : M1 = sI M q i.toNatClampNeg x) (hdg : decode cc pc = .ok (.iastore, 1))
    (kk : ∀ (H1 : Heap) (locs1 : List Loc), Pic G B cy nT M1 H1 → va_S (FB B) s.heap H1 locs1 → W p l e R s m args below meth c H1 locs1 cells slots Q (F0 m (pc + 1) ls rest)) : W p l e R s m args below meth c H locs cells slots Q (F0 m pc ls (.int x :: .int i :: .ref (B + q) :: rest)) := by
  subst eM
  have ha : (WM B cy nT M)[q]? = some (B + q, .inl (cy 0, n, .inl (M.1 q))) := wm_at hq.1 (em_r0 hq.2)
  refine W.iast X.1 X.2.1 (hP.2 q _ ha) ((X.2.2.2.2.2.2.1.1.2 0 _ rfl).1 n (fun j => .int (M.1 q j))) (fun q => by cases q) (by show ¬ (i < 0 ∨ (arrV _ _ _).slots.size ≤ _); rw [arrV_size]; exact inR_vp hi) rfl rfl hdg fun H1 e1 z oq => ?_
  refine kk H1 _ (Pic.to hP z (em_i hq.2) em_io (hP.2.set wm_D ha ?_ oq)) (hS.put z oq (Nat.le_add_right _ _))
  show H1[B + q]? = some (arrV (cy 0) n (fun j => .int (upd (M.1 q) i.toNatClampNeg x j)))
  rw [e1]
  show some ((arrV (cy 0) n (fun j => .int (M.1 q j))).setSlot _ _) = _
  rw [arrV_store]
  congr 2
  funext j
  by_cases hj : j = i.toNatClampNeg <;> simp [updV, upd, hj]
theorem r_last {x : Int64} (X : Cx p s m args meth c cc own nL rt G cy) (hP : Pic G B cy nT M H) (hS : va_S (FB B) s.heap H locs) (hq : q < nxOf nT ∧ kd q = (1, n)) (hi : inR i n = true) (eM : M1 = sL M q i.toNatClampNeg x) (hdg : decode cc pc = .ok (.lastore, 1))
    (kk : ∀ (H1 : Heap) (locs1 : List Loc), Pic G B cy nT M1 H1 → va_S (FB B) s.heap H1 locs1 → W p l e R s m args below meth c H1 locs1 cells slots Q (F0 m (pc + 1) ls rest)) : W p l e R s m args below meth c H locs cells slots Q (F0 m pc ls (.long x :: .int i :: .ref (B + q) :: rest)) := by
  subst eM
  have ha : (WM B cy nT M)[q]? = some (B + q, .inl (cy 1, n, .inr (.inl (M.2.1 q)))) := wm_at hq.1 (em_r1 hq.2)
  refine W.last X.1 X.2.1 (hP.2 q _ ha) ((X.2.2.2.2.2.2.1.1.2 1 _ rfl).1 n (fun j => .long (M.2.1 q j))) (fun q => by cases q) (by show ¬ (i < 0 ∨ (arrV _ _ _).slots.size ≤ _); rw [arrV_size]; exact inR_vp hi) rfl rfl hdg fun H1 e1 z oq => ?_
  refine kk H1 _ (Pic.to hP z (em_l hq.2) em_lo (hP.2.set wm_D ha ?_ oq)) (hS.put z oq (Nat.le_add_right _ _))
  show H1[B + q]? = some (arrV (cy 1) n (fun j => .long (vp_updL (M.2.1 q) i.toNatClampNeg x j)))
  rw [e1]
  show some ((arrV (cy 1) n (fun j => .long (M.2.1 q j))).setSlot _ _) = _
  rw [arrV_store]
  congr 2
  funext j
  by_cases hj : j = i.toNatClampNeg <;> simp [updV, vp_updL, hj]
theorem r_zast {x : Int32} (X : Cx p s m args meth c cc own nL rt G cy) (hP : Pic G B cy nT M H) (hS : va_S (FB B) s.heap H locs) (hq : q < nxOf nT ∧ kd q = (2, n)) (hi : inR i n = true) (eM : M1 = sB M q i.toNatClampNeg (iB x)) (hdg : decode cc pc = .ok (.bastore, 1))
    (kk : ∀ (H1 : Heap) (locs1 : List Loc), Pic G B cy nT M1 H1 → va_S (FB B) s.heap H1 locs1 → W p l e R s m args below meth c H1 locs1 cells slots Q (F0 m (pc + 1) ls rest)) : W p l e R s m args below meth c H locs cells slots Q (F0 m pc ls (.int x :: .int i :: .ref (B + q) :: rest)) := by
  subst eM
  have ha : (WM B cy nT M)[q]? = some (B + q, .inl (cy 2, n, .inl (fun j => bI (M.2.2 q j)))) := wm_at hq.1 (em_r2 hq.2)
  refine W.zast X.1 X.2.1 (hP.2 q _ ha) ((X.2.2.2.2.2.2.1.1.2 2 _ rfl).1 n (fun j => .int (bI (M.2.2 q j)))) (fun q => by cases q) (by show ¬ (i < 0 ∨ (arrV _ _ _).slots.size ≤ _); rw [arrV_size]; exact inR_vp hi) rfl rfl hdg fun H1 e1 z oq => ?_
  refine kk H1 _ (Pic.to hP z (em_b hq.2) em_bo (hP.2.set wm_D ha ?_ oq)) (hS.put z oq (Nat.le_add_right _ _))
  show H1[B + q]? = some (arrV (cy 2) n (fun j => .int (upd (fun j => bI (M.2.2 q j)) i.toNatClampNeg (vp_nar .boolean x) j)))
  rw [e1]
  show some ((arrV (cy 2) n (fun j => .int (bI (M.2.2 q j)))).setSlot _ _) = _
  rw [arrV_store]
  congr 2
  funext j
  by_cases hj : j = i.toNatClampNeg
  · subst hj
    simp [updV, upd, vp_nar]
    try rfl
  · simp [updV, upd, hj]
theorem r_get {C : String} {T : u_T} {N ci index : Nat} {ref : String} (X : Cx p s m args meth c cc own nL rt G cy) (hP : Pic G B cy nT M H) (hq : q < nxOf nT ∧ kd q = (3, ci)) (hin : ∀ w ∈ u_ws C T N, w ∈ wsA) (hc : vwCl[ci]? = some (C, T, N)) (k : Nat) (hk : k < N) (hl : Cond.fieldLink own index ref (T k).2.1 (T k).2.2.1 ∈ wsA) (hf : ref = (T k).1) {v : Value} (hv : (objF B q ci (M.1 q) (M.2.1 q))[k]? = some v) (hdg : decode cc pc = .ok (.getfield index, 3))
    (kk : W p l e R s m args below meth c H locs cells slots Q (F0 m (pc + 3) ls (v :: rest))) : W p l e R s m args below meth c H locs cells slots Q (F0 m pc ls (.ref (B + q) :: rest)) :=
  va_get X.1 X.2.1 X.2.2.2.2.2.1 hin X.2.2.2.2.1 X.2.2.2.2.2.2.1.1 hP.2 q (wm_at hq.1 (em_f hq.2)) hc k hk (X.2.2.2.2.2.1 _ hl) (fun x h => by rw [hf]; exact h) hv hdg kk
theorem r_put {C : String} {T : u_T} {N ci index : Nat} {ref : String} {ty : FieldType} {v : Value} (X : Cx p s m args meth c cc own nL rt G cy) (hP : Pic G B cy nT M H) (hS : va_S (FB B) s.heap H locs) (hq : q < nxOf nT ∧ kd q = (3, ci)) (hin : ∀ w ∈ u_ws C T N, w ∈ wsA) (hc : vwCl[ci]? = some (C, T, N)) (ty0 : Nat → FieldType) (hty : ∀ k, k < N → parseFieldDescriptor (T k).2.2.1 = some (ty0 k)) (hnm : ∀ a, a < N → ∀ b, b < N → a ≠ b → (T a).2.1 ≠ (T b).2.1) (k : Nat) (hk : k < N) (hl : Cond.fieldLink own index ref (T k).2.1 (T k).2.2.1 ∈ wsA) (hf : ref = (T k).1) (hfin : (T k).2.2.2 = false) (hd : parseFieldDescriptor (T k).2.2.1 = some ty) (hn : narrow ty v = v) (hfit : fits ty v = true)
    (hln : k < (objF B q ci (M.1 q) (M.2.1 q)).length) (he : EM B cy nT M1 q = .inr (ci, (objF B q ci (M.1 q) (M.2.1 q)).set k v)) (ho : ∀ q', q' ≠ q → EM B cy nT M1 q' = EM B cy nT M q') (hdg : decode cc pc = .ok (.putfield index, 3))
    (kk : ∀ (H1 : Heap) (locs1 : List Loc), Pic G B cy nT M1 H1 → va_S (FB B) s.heap H1 locs1 → W p l e R s m args below meth c H1 locs1 cells slots Q (F0 m (pc + 3) ls rest)) : W p l e R s m args below meth c H locs cells slots Q (F0 m pc ls (v :: .ref (B + q) :: rest)) := by
  have hK := X.2.2.2.2.2.2.1.1
  have hts := X.2.2.2.2.2.1
  have hap := va_apart (own := own) hts hin ty0 hty hnm hK hc
  have ha : (WM B cy nT M)[q]? = some (B + q, .inr (ci, objF B q ci (M.1 q) (M.2.1 q))) := wm_at hq.1 (em_f hq.2)
  obtain ⟨r, h1, cell, q1, q2, q3, q4⟩ := hP.2 q _ ha
  have hr : r = (C, T, N) := Option.some.inj (h1.symm.trans hc)
  subst hr
  obtain ⟨hS1, hfc, kC, hkC, hkind⟩ := hK.1 ci _ hc
  obtain ⟨cf, kf, fi, f, hi, hsl⟩ := hS1 k hk
  have hlay := hts _ (hin _ (u_in_lay hk))
  unfold u_lay at hlay
  rw [if_neg (by rw [hfin]; decide)] at hlay
  have hst := (u_facts hfc hkC (u_lays hts hin hk) hi).1
  have h6 := u_store hfc hkC hkind hlay hi hd hn hfit
  subst hf
  refine W.putK X.1 X.2.1 (f := f) ⟨X.2.2.2.2.1, hts _ hl, ⟨_, _, _, hi⟩, hst⟩ (by rw [q2]; exact h6) q1 q3 (by rw [hsl]; exact k2_hasslot (q4 k hk)) rfl rfl hdg fun H' e1 e2 e3 => ?_
  rw [hsl] at e1 ⊢
  exact kk H' _ (Pic.to hP e2 he ho (hP.2.set wm_D ha ⟨_, hc, t_OB.to (V := updV (vp_V (objF B q ci (M.1 q) (M.2.1 q))) k v) ⟨_, e1, q2, q3, t_set q4 hap hk v⟩ (fun j _ => vp_updV_set hln v j)⟩ e3)) (hS.put e2 e3 (Nat.le_add_right _ _))
theorem rn_V {C : String} {T : u_T} {N ci idx n maxL : Nat} {y : MethodName} {bytes : ByteArray} {ret : Option FieldType} {rm : Room} {As : List Value} {Qc : Array Value → State → Outcome → State → Prop} (X : Cx p s m args meth c cc own nL rt G cy) (hP : Pic G B cy nT M H) (hM : Met l y (wsU y bytes maxL ret) rm (va_Pc (.ref (B + q) :: As) (PU G B cy nT M)) Qc 0 0 (FB B)) (hq : q < nxOf nT ∧ kd q = (3, ci)) (hc : vwCl[ci]? = some (C, T, N))
    (k1 : Cond.methodLink own idx y ∈ wsA) (k2 : Cond.instanceMethod y ∈ wsA) (k3 : Cond.selects C y y ∈ wsA) (k4 : Cond.initialized C ∈ wsA) (k5 : Cond.code y bytes maxL ret ∈ wsA) (hyc : y.cls = C) (hd : y.cls ≠ "java/lang/invoke/MethodHandle" ∧ y.cls ≠ "java/lang/invoke/VarHandle" ∧ (parseMethodDescriptor y.desc).map (fun d => d.parameters.length) = some n) (hR : (rm.cells = 0 ∧ rm.slots = 0) ∧ rm.frames + 1 ≤ R.frames ∧ 8 + (maxL + 11) + rm.locals ≤ R.locals)
    (hn : As.length = n) (hsz : ls.size = nL) (hst : st0 = As.reverse ++ .ref (B + q) :: rest) (hw : (rest.map fun v => v.category).sum ≤ 8) (hdg : decode cc pc = .ok (.invokevirtual idx, 3)) (hf : cells ≤ R.cells ∧ slots ≤ R.slots) :
    va_Run p l e R s m args below meth c H locs cells slots 0 0 (F0 m pc ls st0) rest (Qc (Value.ref (B + q) :: As).toArray) (FB B) :=
  va_runV ⟨X.1, X.2.1, X.2.2.2.1, X.2.2.2.2.1, X.2.2.2.2.2.1⟩ hM (cwV n X.2.2.2.2.2.1 (goodV k1 k2 k3 k4 k5) rfl hR.1.1 hR.1.2 ⟨hyc, hd⟩ hR.2) ⟨PU.blind, va_recv X.2.2.2.2.2.2.1.1 hP.2 hc (wm_at hq.1 (em_f hq.2)), fun U hU hW => ⟨rfl, by rw [hU]; exact hP, X.2.2.2.2.2.2.1.warm hW⟩⟩ rfl hn hsz hst (lv_room hw) hdg hf
theorem rn_VN {C host : String} {T : u_T} {N ci idx n maxL : Nat} {y : MethodName} {bytes : ByteArray} {ret : Option FieldType} {rm : Room} {As : List Value} {Qc : Array Value → State → Outcome → State → Prop} (X : Cx p s m args meth c cc own nL rt G cy) (hP : Pic G B cy nT M H) (hM : Met l y (wsU y bytes maxL ret) rm (va_Pc (.ref (B + q) :: As) (PU G B cy nT M)) Qc 0 0 (FB B)) (hq : q < nxOf nT ∧ kd q = (3, ci)) (hc : vwCl[ci]? = some (C, T, N))
    (k1 : (own, idx, y, host) ∈ nestT) (k2 : Cond.instanceMethod y ∈ wsA) (k3 : Cond.selects C y y ∈ wsA) (k4 : Cond.initialized y.cls ∈ wsA) (k5 : Cond.code y bytes maxL ret ∈ wsA) (hd : y.cls ≠ "java/lang/invoke/MethodHandle" ∧ y.cls ≠ "java/lang/invoke/VarHandle" ∧ (parseMethodDescriptor y.desc).map (fun d => d.parameters.length) = some n) (hR : (rm.cells = 0 ∧ rm.slots = 0) ∧ rm.frames + 1 ≤ R.frames ∧ 8 + (maxL + 11) + rm.locals ≤ R.locals)
    (hn : As.length = n) (hsz : ls.size = nL) (hst : st0 = As.reverse ++ .ref (B + q) :: rest) (hw : (rest.map fun v => v.category).sum ≤ 8) (hdg : decode cc pc = .ok (.invokevirtual idx, 3)) (hf : cells ≤ R.cells ∧ slots ≤ R.slots) :
    va_Run p l e R s m args below meth c H locs cells slots 0 0 (F0 m pc ls st0) rest (Qc (Value.ref (B + q) :: As).toArray) (FB B) :=
  va_runVN ⟨X.1, X.2.1, X.2.2.2.1, X.2.2.2.2.1, X.2.2.2.2.2.1⟩ hM ⟨va_cnB n X.2.2.2.2.2.1 (goodU k5) rfl hR.1.1 hR.1.2 (X.2.2.2.2.2.2.1.2 _ k1) (X.2.2.2.2.2.1 _ k4) hd hR.2, X.2.2.2.2.2.1 _ k2, X.2.2.2.2.2.1 _ k3⟩ ⟨PU.blind, va_recv X.2.2.2.2.2.2.1.1 hP.2 hc (wm_at hq.1 (em_f hq.2)), fun U hU hW => ⟨rfl, by rw [hU]; exact hP, X.2.2.2.2.2.2.1.warm hW⟩⟩ rfl hn hsz hst (lv_room hw) hdg hf
theorem rn_S {idx n maxL : Nat} {y : MethodName} {bytes : ByteArray} {ret : Option FieldType} {rm : Room} {As : List Value} {Qc : Array Value → State → Outcome → State → Prop} (X : Cx p s m args meth c cc own nL rt G cy) (hP : Pic G B cy nT M H) (hM : Met l y (wsU y bytes maxL ret) rm (va_Pc As (PU G B cy nT M)) Qc 0 0 (FB B))
    (k1 : Cond.methodLink own idx y ∈ wsA) (k2 : Cond.static y ∈ wsA) (k4 : Cond.initialized y.cls ∈ wsA) (k5 : Cond.code y bytes maxL ret ∈ wsA) (hd : y.cls ≠ "java/lang/invoke/MethodHandle" ∧ y.cls ≠ "java/lang/invoke/VarHandle" ∧ (parseMethodDescriptor y.desc).map (fun d => d.parameters.length) = some n) (hR : (rm.cells = 0 ∧ rm.slots = 0) ∧ rm.frames + 1 ≤ R.frames ∧ 8 + (maxL + 11) + rm.locals ≤ R.locals)
    (hn : As.length = n) (hsz : ls.size = nL) (hst : st0 = As.reverse ++ rest) (hw : (rest.map fun v => v.category).sum ≤ 8) (hdg : decode cc pc = .ok (.invokestatic idx, 3)) (hf : cells ≤ R.cells ∧ slots ≤ R.slots) :
    va_Run p l e R s m args below meth c H locs cells slots 0 0 (F0 m pc ls st0) rest (Qc As.toArray) (FB B) :=
  va_runS ⟨X.1, X.2.1, X.2.2.2.1, X.2.2.2.2.1, X.2.2.2.2.2.1⟩ hM ⟨callB_of n X.2.2.2.2.2.1 (goodU k5) rfl hR.1.1 hR.1.2 (X.2.2.2.2.2.1 _ k4) (X.2.2.2.2.2.1 _ k1) hd hR.2, X.2.2.2.2.2.1 _ k2⟩ ⟨PU.blind, fun U hU hW => ⟨rfl, by rw [hU]; exact hP, X.2.2.2.2.2.2.1.warm hW⟩⟩ rfl hn hsz hst (lv_room hw) hdg hf
theorem rn_SN {host : String} {idx n maxL : Nat} {y : MethodName} {bytes : ByteArray} {ret : Option FieldType} {rm : Room} {As : List Value} {Qc : Array Value → State → Outcome → State → Prop} (X : Cx p s m args meth c cc own nL rt G cy) (hP : Pic G B cy nT M H) (hM : Met l y (wsU y bytes maxL ret) rm (va_Pc As (PU G B cy nT M)) Qc 0 0 (FB B))
    (k1 : (own, idx, y, host) ∈ nestT) (k2 : Cond.static y ∈ wsA) (k4 : Cond.initialized y.cls ∈ wsA) (k5 : Cond.code y bytes maxL ret ∈ wsA) (hd : y.cls ≠ "java/lang/invoke/MethodHandle" ∧ y.cls ≠ "java/lang/invoke/VarHandle" ∧ (parseMethodDescriptor y.desc).map (fun d => d.parameters.length) = some n) (hR : (rm.cells = 0 ∧ rm.slots = 0) ∧ rm.frames + 1 ≤ R.frames ∧ 8 + (maxL + 11) + rm.locals ≤ R.locals)
    (hn : As.length = n) (hsz : ls.size = nL) (hst : st0 = As.reverse ++ rest) (hw : (rest.map fun v => v.category).sum ≤ 8) (hdg : decode cc pc = .ok (.invokestatic idx, 3)) (hf : cells ≤ R.cells ∧ slots ≤ R.slots) :
    va_Run p l e R s m args below meth c H locs cells slots 0 0 (F0 m pc ls st0) rest (Qc As.toArray) (FB B) :=
  va_runSN ⟨X.1, X.2.1, X.2.2.2.1, X.2.2.2.2.1, X.2.2.2.2.2.1⟩ hM ⟨va_cnB n X.2.2.2.2.2.1 (goodU k5) rfl hR.1.1 hR.1.2 (X.2.2.2.2.2.2.1.2 _ k1) (X.2.2.2.2.2.1 _ k4) hd hR.2, X.2.2.2.2.2.1 _ k2, trivial⟩ ⟨PU.blind, fun U hU hW => ⟨rfl, by rw [hU]; exact hP, X.2.2.2.2.2.2.1.warm hW⟩⟩ rfl hn hsz hst (lv_room hw) hdg hf
theorem cl_i {r : Int32} {a : Array Value} (hr : va_Run p l e R s m args below meth c H locs cells slots 0 0 (F0 m pc ls st0) rest (Qi G B cy nT r M1 a) (FB B)) (hS : va_S (FB B) s.heap H locs)
    (kk : ∀ (H1 : Heap) (locs1 : List Loc), Pic G B cy nT M1 H1 → va_S (FB B) s.heap H1 locs1 → W p l e R s m args below meth c H1 locs1 cells slots Q (F0 m (pc + 3) ls (.int r :: rest))) : W p l e R s m args below meth c H locs cells slots Q (F0 m pc ls st0) :=
  va_calli hr hS (fun _ _ h => h) (fun _ h => h) (fun r' u t H1 locs1 ht _ hp hB _ _ hS1 => by subst hp; subst ht; exact kk _ _ hB hS1)
theorem cl_l {r : Int64} {a : Array Value} (hr : va_Run p l e R s m args below meth c H locs cells slots 0 0 (F0 m pc ls st0) rest (Ql G B cy nT r M1 a) (FB B)) (hS : va_S (FB B) s.heap H locs)
    (kk : ∀ (H1 : Heap) (locs1 : List Loc), Pic G B cy nT M1 H1 → va_S (FB B) s.heap H1 locs1 → W p l e R s m args below meth c H1 locs1 cells slots Q (F0 m (pc + 3) ls (.long r :: rest))) : W p l e R s m args below meth c H locs cells slots Q (F0 m pc ls st0) :=
  va_calll hr hS (fun _ _ h => h) (fun _ h => h) (fun r' u t H1 locs1 ht _ hp hB _ _ hS1 => by subst hp; subst ht; exact kk _ _ hB hS1)
theorem cl_v {a : Array Value} (hr : va_Run p l e R s m args below meth c H locs cells slots 0 0 (F0 m pc ls st0) rest (Qv G B cy nT M1 a) (FB B)) (hS : va_S (FB B) s.heap H locs)
    (kk : ∀ (H1 : Heap) (locs1 : List Loc), Pic G B cy nT M1 H1 → va_S (FB B) s.heap H1 locs1 → W p l e R s m args below meth c H1 locs1 cells slots Q (F0 m (pc + 3) ls rest)) : W p l e R s m args below meth c H locs cells slots Q (F0 m pc ls st0) :=
  va_callv hr hS (fun _ _ h => h) (fun _ h => h) (fun u t H1 locs1 ht _ _ hB _ _ hS1 => by subst ht; exact kk _ _ hB hS1)
theorem r_iret {r v : Int32} (X : Cx p s m args meth c cc own nL (some .int) G cy) (hP : Pic G B cy nT M H) (hS : va_S (FB B) s.heap H locs) (hv : v = r) (hM : M = M1) (hdg : decode cc pc = .ok (.ireturn, 1)) : W p l e R s m args below meth c H locs cells slots (MQ below (Qi G B cy nT r M1) args s cells slots (FB B)) (F0 m pc ls [.int v]) :=
  W.iret X.1 X.2.1 X.2.2.1 (fun t ht _ => ⟨⟨v, (), rfl, hv, by show Pic G B cy nT M1 t.heap; rw [ht, ← hM]; exact hP⟩, hS.F ht⟩) hS.2.2 hdg X.2.2.2.2.2.2.2
theorem r_zret {r v : Int32} (X : Cx p s m args meth c cc own nL (some .boolean) G cy) (hP : Pic G B cy nT M H) (hS : va_S (FB B) s.heap H locs) (hb : narrow .boolean (.int v) = .int v) (hv : v = r) (hM : M = M1) (hdg : decode cc pc = .ok (.ireturn, 1)) : W p l e R s m args below meth c H locs cells slots (MQ below (Qi G B cy nT r M1) args s cells slots (FB B)) (F0 m pc ls [.int v]) :=
  W.zret X.1 X.2.1 X.2.2.1 hb (fun t ht _ => ⟨⟨v, (), rfl, hv, by show Pic G B cy nT M1 t.heap; rw [ht, ← hM]; exact hP⟩, hS.F ht⟩) hS.2.2 hdg X.2.2.2.2.2.2.2
theorem r_lret {r v : Int64} (X : Cx p s m args meth c cc own nL (some .long) G cy) (hP : Pic G B cy nT M H) (hS : va_S (FB B) s.heap H locs) (hv : v = r) (hM : M = M1) (hdg : decode cc pc = .ok (.lreturn, 1)) : W p l e R s m args below meth c H locs cells slots (MQ below (Ql G B cy nT r M1) args s cells slots (FB B)) (F0 m pc ls [.long v]) :=
  W.lret X.1 X.2.1 X.2.2.1 (fun t ht _ => ⟨⟨v, (), rfl, hv, by show Pic G B cy nT M1 t.heap; rw [ht, ← hM]; exact hP⟩, hS.F ht⟩) hS.2.2 hdg X.2.2.2.2.2.2.2
theorem r_vret (X : Cx p s m args meth c cc own nL none G cy) (hP : Pic G B cy nT M H) (hS : va_S (FB B) s.heap H locs) (hM : M = M1) (hdg : decode cc pc = .ok (.return_, 1)) : W p l e R s m args below meth c H locs cells slots (MQ below (Qv G B cy nT M1) args s cells slots (FB B)) (F0 m pc ls []) :=
  W.vret X.1 X.2.1 X.2.2.1 (fun t ht _ => ⟨⟨(), rfl, trivial, by show Pic G B cy nT M1 t.heap; rw [ht, ← hM]; exact hP⟩, hS.F ht⟩) hS.2.2 hdg X.2.2.2.2.2.2.2
/-- a method's walk gives its contract -/
theorem r_met {y : MethodName} {maxL : Nat} {ret : Option FieldType} {rm : Room} {av : List Value} {Qc : Array Value → State → Outcome → State → Prop} (hy : plainName y.cls = true) (own : String) (ho : y.cls = own) (hl : (lg_sl av).length ≤ maxL)
    (body : ∀ (p : Program) (e : Env) (s : State) (m : MethodId) (args : Array Value) (below : List Frame) (meth : Method) (c : Code) (ls : Array Slot), Cx p s m args meth c cc own maxL ret G cy → Pic G B cy nT M s.heap → lv_has ls maxL (lv_args 0 av) →
      W p l e rm s m args below meth c s.heap [] 0 0 (MQ below Qc args s 0 0 (FB B)) (F0 m 0 ls [])) : Met l y (wsU y cc maxL ret) rm (va_Pc av (PU G B cy nT M)) Qc 0 0 (FB B) := by
  refine Met.ofW (cc := cc) (maxL := maxL) (ret := ret) hy rfl ?_
  intro p e s m args below meth c s₁ Bd hml hv
  obtain ⟨rfl, hP, hK⟩ := hv
  have hts := atoms_spec (ws := wsU y cc maxL ret) Bd.pre
  have hown : s.vm.findClass own = some m.cls := ho ▸ findClass_of_methodNamed Bd.named
  have hlv := lv_entry av (n := maxL) hl
  rw [lg_entry_eq]
  exact body p e s m _ below meth c _ ⟨Bd.exec, Bd.bytes, Bd.returns, hml, hown, fun w h => hts w (List.mem_cons_of_mem _ h), hK, Bd.notSynchronized⟩ hP hlv
theorem nnC {z : Int32} (hz : ¬ z < 0) : z.toInt = (z.toNatClampNeg : Int) := by
  have hz0 : (0 : Int) ≤ z.toInt := by
    have := Int32.not_lt.mp hz
    simpa using Int32.le_iff_toInt_le.mp this
  show z.toInt = ((z.toInt.toNat : Nat) : Int)
  omega
/-- may a copy go? -/
def okC (sp dp n : Int32) (n0 n1 : Nat) : Bool := !decide (sp < 0) && !decide (dp < 0) && !decide (n < 0) && decide (sp.toNatClampNeg + n.toNatClampNeg ≤ n0) && decide (dp.toNatClampNeg + n.toNatClampNeg ≤ n1)
theorem okC_el {sp dp n : Int32} {n0 n1 : Nat} (h : okC sp dp n n0 n1 = true) : ¬ sp < 0 ∧ ¬ dp < 0 ∧ ¬ n < 0 ∧ sp.toNatClampNeg + n.toNatClampNeg ≤ n0 ∧ dp.toNatClampNeg + n.toNatClampNeg ≤ n1 := by
  simpa [okC, and_assoc] using h
theorem em_cpI {B : Nat} {cy : Nat → ClassId} {nT : Nat} {M : Mem} {a b sp dp k n : Nat} (hk : kd b = (0, n)) : EM B cy nT (cpI M a sp b dp k) b = .inl (cy 0, n, .inl (va_cpy (M.1 a) (M.1 b) sp dp k)) := by
  rw [em_r0 hk]
  show (Sum.inl (cy 0, n, .inl (va_up M.1 b (va_cpy (M.1 a) (M.1 b) sp dp k) b)) : va_E) = _
  simp [va_up]
theorem em_cpIo {B : Nat} {cy : Nat → ClassId} {nT : Nat} {M : Mem} {a b sp dp k : Nat} (q' : Nat) (h : q' ≠ b) : EM B cy nT (cpI M a sp b dp k) q' = EM B cy nT M q' := by
  simp [EM, cpI, va_up, h]
theorem r_cpI {a b n0 n1 index : Nat} {sp dp k : Int32} (X : Cx p s m args meth c cc own nL rt G cy) (hml : ls.size = nL) (hP : Pic G B cy nT M H) (hS : va_S (FB B) s.heap H locs) (hl : Cond.methodLink own index arraycopyName ∈ wsA) (hnat : Cond.native arraycopyName ∈ wsA) (hstat : Cond.static arraycopyName ∈ wsA) (hini : Cond.initialized "java/lang/System" ∈ wsA) (ha : a < nxOf nT ∧ kd a = (0, n0)) (hb : b < nxOf nT ∧ kd b = (0, n1)) (hok : okC sp dp k n0 n1 = true) (eM : M1 = cpI M a sp.toNatClampNeg b dp.toNatClampNeg k.toNatClampNeg)
    (hframes : 1 ≤ R.frames) (hlocals : (rest.map fun v => v.category).sum + (nativeFrameWords "java/lang/System" "arraycopy" 5 + 11) ≤ R.locals) (hdg : decode cc pc = .ok (.invokestatic index, 3))
    (kk : ∀ (H1 : Heap) (locs1 : List Loc), Pic G B cy nT M1 H1 → va_S (FB B) s.heap H1 locs1 → W p l e R s m args below meth c H1 locs1 cells slots Q (F0 m (pc + 3) ls rest)) : W p l e R s m args below meth c H locs cells slots Q (F0 m pc ls (.int k :: .int dp :: .ref (B + b) :: .int sp :: .ref (B + a) :: rest)) := by
  subst eM
  obtain ⟨h1, h2, h3, h4, h5⟩ := okC_el hok
  have hK := X.2.2.2.2.2.2.1.1
  have hts := X.2.2.2.2.2.1
  intro T hT Y
  have wa : (WM B cy nT M)[a]? = some (B + a, .inl (cy 0, n0, .inl (M.1 a))) := wm_at ha.1 (em_r0 ha.2)
  have wb : (WM B cy nT M)[b]? = some (B + b, .inl (cy 0, n1, .inl (M.1 b))) := wm_at hb.1 (em_r0 hb.2)
  have hc0 : H[B + a]? = some (vp_cell (cy 0) (n0, .inl (M.1 a))) := hP.2 a _ wa
  have hc1 : H[B + b]? = some (vp_cell (cy 0) (n1, .inl (M.1 b))) := hP.2 b _ wb
  obtain ⟨-, k0, hk0, cm0, hkk0⟩ := (hK.2 0 _ rfl).1 n0 (fun j => .int (M.1 a j))
  obtain ⟨-, k1, hk1, cm1, hkk1⟩ := (hK.2 0 _ rfl).1 n1 (fun j => .int (M.1 b j))
  obtain ⟨vm', X', step⟩ := Y.arraycopy X.1 X.2.2.2.2.1 (hts _ hl) (hts _ hnat) (hts _ hstat) (hts _ hini) (src := B + a) (dst := B + b) (cs := vp_cell (cy 0) (n0, .inl (M.1 a))) (cd := vp_cell (cy 0) (n1, .inl (M.1 b))) (srcPos := sp) (destPos := dp) (n := k) (by rw [hT]; exact hc0) (by rw [hT]; exact hc1)
    (fun _ h => by cases h) (fun _ h => by cases h) (fun h => by cases h) (fun h => by cases h) hk0 hk1 hkk0 hkk1 (by simp [refKind]) h1 h2 h3
    (by rw [nnC h1, nnC h3]; show ¬ _ > ((arrV (cy 0) n0 (fun j => .int (M.1 a j))).slots.size : Int); rw [arrV_size]; omega)
    (by rw [nnC h2, nnC h3]; show ¬ _ > ((arrV (cy 0) n1 (fun j => .int (M.1 b j))).slots.size : Int); rw [arrV_size]; omega)
    (fun vm₁ _ i hi => by
      have e : (vp_cell (cy 0) (n0, .inl (M.1 a))).slots.getD (sp.toNatClampNeg + i) .null = .int (M.1 a (sp.toNatClampNeg + i)) := by
        show (arrV (cy 0) n0 (fun j => .int (M.1 a j))).slots.getD _ _ = _
        rw [Array.getD_eq_getD_getElem?, arrV_read _ _ (by omega)]
        rfl
      refine ⟨?_, ?_⟩
      · rw [e]
        rfl
      · rw [e]
        exact trivial)
    (g := F0 m pc ls (.int k :: .int dp :: .ref (B + b) :: .int sp :: .ref (B + a) :: rest)) rfl (by rw [X.2.2.2.1]; exact hml) (rest := rest) rfl (by rw [X.2.1]; exact hdg) hframes (by show 2 * 0 + _ + _ ≤ _; omega)
  have e1 : copied (vp_cell (cy 0) (n0, .inl (M.1 a))) (vp_cell (cy 0) (n1, .inl (M.1 b))) sp dp k = vp_cell (cy 0) (n1, .inl (va_cpy (M.1 a) (M.1 b) sp.toNatClampNeg dp.toNatClampNeg k.toNatClampNeg)) := va_copied (fun z => .int z) (cy 0) (cy 0) (M.1 a) (M.1 b) h4
  rw [e1] at X' step
  generalize hnc : vp_cell (cy 0) (n1, .inl (va_cpy (M.1 a) (M.1 b) sp.toNatClampNeg dp.toNatClampNeg k.toNatClampNeg)) = nc at X' step
  have hl : B + b < H.size := (Array.getElem?_eq_some_iff.mp hc1).1
  have hheap : ((T.setVm vm').setCell (B + b) nc).heap = H.setIfInBounds (B + b) nc := by rw [← hT]; rfl
  have oq : ∀ q : Nat, q ≠ B + b → (H.setIfInBounds (B + b) nc)[q]? = H[q]? := fun q hq => by simp [Array.getElem?_setIfInBounds, Ne.symm hq]
  have hz : (H.setIfInBounds (B + b) nc).size = H.size := by simp
  obtain ⟨t, a1, b1⟩ := kk _ _ (Pic.to hP hz (em_cpI hb.2) em_cpIo (hP.2.set wm_D wb (show (H.setIfInBounds (B + b) nc)[B + b]? = some (vp_cell _ _) by rw [← hnc]; simp [Array.getElem?_setIfInBounds, hl]) oq)) ⟨by rw [hz]; exact hS.1, fun q g1 g2 => by
      rw [oq q (fun e => g2 (by rw [e]; exact Nat.le_add_right _ _))]
      exact hS.2.1 q g1 g2, fun q hq => by
      rcases List.mem_append.mp hq with h | h
      · exact hS.2.2 q h
      · obtain ⟨z, -, hz⟩ := List.mem_map.mp h
        rw [← hz]
        exact Nat.le_add_right _ _⟩ _ hheap X'
  exact ⟨t, step t a1, b1⟩
theorem em_cpL {B : Nat} {cy : Nat → ClassId} {nT : Nat} {M : Mem} {a b sp dp k n : Nat} (hk : kd b = (1, n)) : EM B cy nT (cpL M a sp b dp k) b = .inl (cy 1, n, .inr (.inl (va_cpy (M.2.1 a) (M.2.1 b) sp dp k))) := by
  rw [em_r1 hk]
  show (Sum.inl (cy 1, n, .inr (.inl (va_up M.2.1 b (va_cpy (M.2.1 a) (M.2.1 b) sp dp k) b))) : va_E) = _
  simp [va_up]
theorem em_cpLo {B : Nat} {cy : Nat → ClassId} {nT : Nat} {M : Mem} {a b sp dp k : Nat} (q' : Nat) (h : q' ≠ b) : EM B cy nT (cpL M a sp b dp k) q' = EM B cy nT M q' := by
  simp [EM, cpL, va_up, h]
theorem r_cpL {a b n0 n1 index : Nat} {sp dp k : Int32} (X : Cx p s m args meth c cc own nL rt G cy) (hml : ls.size = nL) (hP : Pic G B cy nT M H) (hS : va_S (FB B) s.heap H locs) (hl : Cond.methodLink own index arraycopyName ∈ wsA) (hnat : Cond.native arraycopyName ∈ wsA) (hstat : Cond.static arraycopyName ∈ wsA) (hini : Cond.initialized "java/lang/System" ∈ wsA) (ha : a < nxOf nT ∧ kd a = (1, n0)) (hb : b < nxOf nT ∧ kd b = (1, n1)) (hok : okC sp dp k n0 n1 = true) (eM : M1 = cpL M a sp.toNatClampNeg b dp.toNatClampNeg k.toNatClampNeg)
    (hframes : 1 ≤ R.frames) (hlocals : (rest.map fun v => v.category).sum + (nativeFrameWords "java/lang/System" "arraycopy" 5 + 11) ≤ R.locals) (hdg : decode cc pc = .ok (.invokestatic index, 3))
    (kk : ∀ (H1 : Heap) (locs1 : List Loc), Pic G B cy nT M1 H1 → va_S (FB B) s.heap H1 locs1 → W p l e R s m args below meth c H1 locs1 cells slots Q (F0 m (pc + 3) ls rest)) : W p l e R s m args below meth c H locs cells slots Q (F0 m pc ls (.int k :: .int dp :: .ref (B + b) :: .int sp :: .ref (B + a) :: rest)) := by
  subst eM
  obtain ⟨h1, h2, h3, h4, h5⟩ := okC_el hok
  have hK := X.2.2.2.2.2.2.1.1
  have hts := X.2.2.2.2.2.1
  intro T hT Y
  have wa : (WM B cy nT M)[a]? = some (B + a, .inl (cy 1, n0, .inr (.inl (M.2.1 a)))) := wm_at ha.1 (em_r1 ha.2)
  have wb : (WM B cy nT M)[b]? = some (B + b, .inl (cy 1, n1, .inr (.inl (M.2.1 b)))) := wm_at hb.1 (em_r1 hb.2)
  have hc0 : H[B + a]? = some (vp_cell (cy 1) (n0, .inr (.inl (M.2.1 a)))) := hP.2 a _ wa
  have hc1 : H[B + b]? = some (vp_cell (cy 1) (n1, .inr (.inl (M.2.1 b)))) := hP.2 b _ wb
  obtain ⟨-, k0, hk0, cm0, hkk0⟩ := (hK.2 1 _ rfl).1 n0 (fun j => .long (M.2.1 a j))
  obtain ⟨-, k1, hk1, cm1, hkk1⟩ := (hK.2 1 _ rfl).1 n1 (fun j => .long (M.2.1 b j))
  obtain ⟨vm', X', step⟩ := Y.arraycopy X.1 X.2.2.2.2.1 (hts _ hl) (hts _ hnat) (hts _ hstat) (hts _ hini) (src := B + a) (dst := B + b) (cs := vp_cell (cy 1) (n0, .inr (.inl (M.2.1 a)))) (cd := vp_cell (cy 1) (n1, .inr (.inl (M.2.1 b)))) (srcPos := sp) (destPos := dp) (n := k) (by rw [hT]; exact hc0) (by rw [hT]; exact hc1)
    (fun _ h => by cases h) (fun _ h => by cases h) (fun h => by cases h) (fun h => by cases h) hk0 hk1 hkk0 hkk1 (by simp [refKind]) h1 h2 h3
    (by rw [nnC h1, nnC h3]; show ¬ _ > ((arrV (cy 1) n0 (fun j => .long (M.2.1 a j))).slots.size : Int); rw [arrV_size]; omega)
    (by rw [nnC h2, nnC h3]; show ¬ _ > ((arrV (cy 1) n1 (fun j => .long (M.2.1 b j))).slots.size : Int); rw [arrV_size]; omega)
    (fun vm₁ _ i hi => by
      have e : (vp_cell (cy 1) (n0, .inr (.inl (M.2.1 a)))).slots.getD (sp.toNatClampNeg + i) .null = .long (M.2.1 a (sp.toNatClampNeg + i)) := by
        show (arrV (cy 1) n0 (fun j => .long (M.2.1 a j))).slots.getD _ _ = _
        rw [Array.getD_eq_getD_getElem?, arrV_read _ _ (by omega)]
        rfl
      refine ⟨?_, ?_⟩
      · rw [e]
        rfl
      · rw [e]
        exact trivial)
    (g := F0 m pc ls (.int k :: .int dp :: .ref (B + b) :: .int sp :: .ref (B + a) :: rest)) rfl (by rw [X.2.2.2.1]; exact hml) (rest := rest) rfl (by rw [X.2.1]; exact hdg) hframes (by show 2 * 0 + _ + _ ≤ _; omega)
  have e1 : copied (vp_cell (cy 1) (n0, .inr (.inl (M.2.1 a)))) (vp_cell (cy 1) (n1, .inr (.inl (M.2.1 b)))) sp dp k = vp_cell (cy 1) (n1, .inr (.inl (va_cpy (M.2.1 a) (M.2.1 b) sp.toNatClampNeg dp.toNatClampNeg k.toNatClampNeg))) := va_copied (fun z => .long z) (cy 1) (cy 1) (M.2.1 a) (M.2.1 b) h4
  rw [e1] at X' step
  generalize hnc : vp_cell (cy 1) (n1, .inr (.inl (va_cpy (M.2.1 a) (M.2.1 b) sp.toNatClampNeg dp.toNatClampNeg k.toNatClampNeg))) = nc at X' step
  have hl : B + b < H.size := (Array.getElem?_eq_some_iff.mp hc1).1
  have hheap : ((T.setVm vm').setCell (B + b) nc).heap = H.setIfInBounds (B + b) nc := by rw [← hT]; rfl
  have oq : ∀ q : Nat, q ≠ B + b → (H.setIfInBounds (B + b) nc)[q]? = H[q]? := fun q hq => by simp [Array.getElem?_setIfInBounds, Ne.symm hq]
  have hz : (H.setIfInBounds (B + b) nc).size = H.size := by simp
  obtain ⟨t, a1, b1⟩ := kk _ _ (Pic.to hP hz (em_cpL hb.2) em_cpLo (hP.2.set wm_D wb (show (H.setIfInBounds (B + b) nc)[B + b]? = some (vp_cell _ _) by rw [← hnc]; simp [Array.getElem?_setIfInBounds, hl]) oq)) ⟨by rw [hz]; exact hS.1, fun q g1 g2 => by
      rw [oq q (fun e => g2 (by rw [e]; exact Nat.le_add_right _ _))]
      exact hS.2.1 q g1 g2, fun q hq => by
      rcases List.mem_append.mp hq with h | h
      · exact hS.2.2 q h
      · obtain ⟨z, -, hz⟩ := List.mem_map.mp h
        rw [← hz]
        exact Nat.le_add_right _ _⟩ _ hheap X'
  exact ⟨t, step t a1, b1⟩
end ROWS
theorem lc_lt {x y : Int64} : lg_cmp x y < 0 ↔ x < y := by
  unfold lg_cmp
  by_cases h : x > y
  · rw [if_pos h]
    exact ⟨fun z => absurd z (by decide), fun z => absurd z (by rw [Int64.not_lt]; exact Int64.le_of_lt h)⟩
  · rw [if_neg h]
    by_cases h2 : x = y
    · rw [if_pos h2]
      exact ⟨fun z => absurd z (by decide), fun z => by rw [h2] at z; exact absurd z Int64.lt_irrefl⟩
    · rw [if_neg h2]
      refine ⟨fun _ => ?_, fun _ => by decide⟩
      have h : ¬ y < x := h
      rw [Int64.lt_iff_toInt_lt] at h ⊢
      have h3 : ¬ x.toInt = y.toInt := fun z => h2 (Int64.toInt_inj.mp z)
      omega
theorem lc_gt {x y : Int64} : 0 < lg_cmp x y ↔ y < x := by
  unfold lg_cmp
  by_cases h : x > y
  · rw [if_pos h]
    exact ⟨fun _ => h, fun _ => by decide⟩
  · rw [if_neg h]
    by_cases h2 : x = y
    · rw [if_pos h2]
      exact ⟨fun z => absurd z (by decide), fun z => absurd z h⟩
    · rw [if_neg h2]
      exact ⟨fun z => absurd z (by decide), fun z => absurd z h⟩
theorem lc_eq {x y : Int64} : lg_cmp x y = 0 ↔ x = y := by
  unfold lg_cmp
  by_cases h : x > y
  · rw [if_pos h]
    exact ⟨fun z => absurd z (by decide), fun z => by rw [z] at h; exact absurd h Int64.lt_irrefl⟩
  · rw [if_neg h]
    by_cases h2 : x = y
    · rw [if_pos h2]
      exact ⟨fun _ => h2, fun _ => rfl⟩
    · rw [if_neg h2]
      exact ⟨fun z => absurd z (by decide), fun z => absurd z h2⟩
theorem lc_le {x y : Int64} : lg_cmp x y ≤ 0 ↔ x ≤ y := by
  have h := lc_gt (x := x) (y := y)
  rw [← Int32.not_lt, h, Int64.not_lt]
theorem lc_ge {x y : Int64} : 0 ≤ lg_cmp x y ↔ y ≤ x := by
  have h := lc_lt (x := x) (y := y)
  rw [← Int32.not_lt, h, Int64.not_lt]
theorem kq_0 {nT : Nat} : 0 < nxOf nT ∧ kd 0 = (3, 8) := ⟨by unfold nxOf; omega, by decide +kernel⟩
theorem kq_1 {nT : Nat} : 1 < nxOf nT ∧ kd 1 = (3, 5) := ⟨by unfold nxOf; omega, by decide +kernel⟩
theorem kq_2 {nT : Nat} : 2 < nxOf nT ∧ kd 2 = (3, 1) := ⟨by unfold nxOf; omega, by decide +kernel⟩
theorem kq_3 {nT : Nat} : 3 < nxOf nT ∧ kd 3 = (0, 40) := ⟨by unfold nxOf; omega, by decide +kernel⟩
theorem kq_4 {nT : Nat} : 4 < nxOf nT ∧ kd 4 = (1, 40) := ⟨by unfold nxOf; omega, by decide +kernel⟩
theorem kq_5 {nT : Nat} : 5 < nxOf nT ∧ kd 5 = (0, 40) := ⟨by unfold nxOf; omega, by decide +kernel⟩
theorem kq_6 {nT : Nat} : 6 < nxOf nT ∧ kd 6 = (0, 40) := ⟨by unfold nxOf; omega, by decide +kernel⟩
theorem kq_7 {nT : Nat} : 7 < nxOf nT ∧ kd 7 = (0, 40) := ⟨by unfold nxOf; omega, by decide +kernel⟩
theorem kq_8 {nT : Nat} : 8 < nxOf nT ∧ kd 8 = (0, 40) := ⟨by unfold nxOf; omega, by decide +kernel⟩
theorem kq_9 {nT : Nat} : 9 < nxOf nT ∧ kd 9 = (0, 480) := ⟨by unfold nxOf; omega, by decide +kernel⟩
theorem kq_10 {nT : Nat} : 10 < nxOf nT ∧ kd 10 = (0, 40) := ⟨by unfold nxOf; omega, by decide +kernel⟩
theorem kq_11 {nT : Nat} : 11 < nxOf nT ∧ kd 11 = (3, 7) := ⟨by unfold nxOf; omega, by decide +kernel⟩
theorem kq_12 {nT : Nat} : 12 < nxOf nT ∧ kd 12 = (0, 16) := ⟨by unfold nxOf; omega, by decide +kernel⟩
theorem kq_13 {nT : Nat} : 13 < nxOf nT ∧ kd 13 = (0, 16) := ⟨by unfold nxOf; omega, by decide +kernel⟩
theorem kq_14 {nT : Nat} : 14 < nxOf nT ∧ kd 14 = (0, 384) := ⟨by unfold nxOf; omega, by decide +kernel⟩
theorem kq_15 {nT : Nat} : 15 < nxOf nT ∧ kd 15 = (0, 384) := ⟨by unfold nxOf; omega, by decide +kernel⟩
theorem kq_16 {nT : Nat} : 16 < nxOf nT ∧ kd 16 = (0, 384) := ⟨by unfold nxOf; omega, by decide +kernel⟩
theorem kq_17 {nT : Nat} : 17 < nxOf nT ∧ kd 17 = (3, 4) := ⟨by unfold nxOf; omega, by decide +kernel⟩
theorem kq_18 {nT : Nat} : 18 < nxOf nT ∧ kd 18 = (0, 10) := ⟨by unfold nxOf; omega, by decide +kernel⟩
theorem kq_19 {nT : Nat} : 19 < nxOf nT ∧ kd 19 = (0, 10) := ⟨by unfold nxOf; omega, by decide +kernel⟩
theorem kq_20 {nT : Nat} : 20 < nxOf nT ∧ kd 20 = (0, 10) := ⟨by unfold nxOf; omega, by decide +kernel⟩
theorem kq_21 {nT : Nat} : 21 < nxOf nT ∧ kd 21 = (1, 10) := ⟨by unfold nxOf; omega, by decide +kernel⟩
theorem kq_22 {nT : Nat} : 22 < nxOf nT ∧ kd 22 = (3, 3) := ⟨by unfold nxOf; omega, by decide +kernel⟩
theorem kq_23 {nT : Nat} : 23 < nxOf nT ∧ kd 23 = (0, 40) := ⟨by unfold nxOf; omega, by decide +kernel⟩
theorem kq_24 {nT : Nat} : 24 < nxOf nT ∧ kd 24 = (0, 40) := ⟨by unfold nxOf; omega, by decide +kernel⟩
theorem kq_25 {nT : Nat} : 25 < nxOf nT ∧ kd 25 = (1, 40) := ⟨by unfold nxOf; omega, by decide +kernel⟩
theorem kq_26 {nT : Nat} : 26 < nxOf nT ∧ kd 26 = (4, 20) := ⟨by unfold nxOf; omega, by decide +kernel⟩
theorem kq_27 {nT : Nat} : 27 < nxOf nT ∧ kd 27 = (5, 4) := ⟨by unfold nxOf; omega, by decide +kernel⟩
theorem kq_28 {nT : Nat} : 28 < nxOf nT ∧ kd 28 = (6, 6) := ⟨by unfold nxOf; omega, by decide +kernel⟩
theorem kq_29 {nT : Nat} : 29 < nxOf nT ∧ kd 29 = (3, 2) := ⟨by unfold nxOf; omega, by decide +kernel⟩
theorem kq_30 {nT : Nat} : 30 < nxOf nT ∧ kd 30 = (3, 1) := ⟨by unfold nxOf; omega, by decide +kernel⟩
theorem kq_31 {nT : Nat} : 31 < nxOf nT ∧ kd 31 = (0, 40) := ⟨by unfold nxOf; omega, by decide +kernel⟩
theorem kq_32 {nT : Nat} : 32 < nxOf nT ∧ kd 32 = (1, 40) := ⟨by unfold nxOf; omega, by decide +kernel⟩
theorem kq_33 {nT : Nat} : 33 < nxOf nT ∧ kd 33 = (0, 40) := ⟨by unfold nxOf; omega, by decide +kernel⟩
theorem kq_34 {nT : Nat} : 34 < nxOf nT ∧ kd 34 = (0, 40) := ⟨by unfold nxOf; omega, by decide +kernel⟩
theorem kq_35 {nT : Nat} : 35 < nxOf nT ∧ kd 35 = (3, 2) := ⟨by unfold nxOf; omega, by decide +kernel⟩
theorem kq_36 {nT : Nat} : 36 < nxOf nT ∧ kd 36 = (3, 1) := ⟨by unfold nxOf; omega, by decide +kernel⟩
theorem kq_37 {nT : Nat} : 37 < nxOf nT ∧ kd 37 = (0, 40) := ⟨by unfold nxOf; omega, by decide +kernel⟩
theorem kq_38 {nT : Nat} : 38 < nxOf nT ∧ kd 38 = (1, 40) := ⟨by unfold nxOf; omega, by decide +kernel⟩
theorem kq_39 {nT : Nat} : 39 < nxOf nT ∧ kd 39 = (0, 40) := ⟨by unfold nxOf; omega, by decide +kernel⟩
theorem kq_40 {nT : Nat} : 40 < nxOf nT ∧ kd 40 = (0, 40) := ⟨by unfold nxOf; omega, by decide +kernel⟩
theorem kq_41 {nT : Nat} : 41 < nxOf nT ∧ kd 41 = (3, 2) := ⟨by unfold nxOf; omega, by decide +kernel⟩
theorem kq_42 {nT : Nat} : 42 < nxOf nT ∧ kd 42 = (3, 1) := ⟨by unfold nxOf; omega, by decide +kernel⟩
theorem kq_43 {nT : Nat} : 43 < nxOf nT ∧ kd 43 = (0, 40) := ⟨by unfold nxOf; omega, by decide +kernel⟩
theorem kq_44 {nT : Nat} : 44 < nxOf nT ∧ kd 44 = (1, 40) := ⟨by unfold nxOf; omega, by decide +kernel⟩
theorem kq_45 {nT : Nat} : 45 < nxOf nT ∧ kd 45 = (0, 40) := ⟨by unfold nxOf; omega, by decide +kernel⟩
theorem kq_46 {nT : Nat} : 46 < nxOf nT ∧ kd 46 = (0, 40) := ⟨by unfold nxOf; omega, by decide +kernel⟩
theorem kq_47 {nT : Nat} : 47 < nxOf nT ∧ kd 47 = (3, 2) := ⟨by unfold nxOf; omega, by decide +kernel⟩
theorem kq_48 {nT : Nat} : 48 < nxOf nT ∧ kd 48 = (3, 1) := ⟨by unfold nxOf; omega, by decide +kernel⟩
theorem kq_49 {nT : Nat} : 49 < nxOf nT ∧ kd 49 = (0, 40) := ⟨by unfold nxOf; omega, by decide +kernel⟩
theorem kq_50 {nT : Nat} : 50 < nxOf nT ∧ kd 50 = (1, 40) := ⟨by unfold nxOf; omega, by decide +kernel⟩
theorem kq_51 {nT : Nat} : 51 < nxOf nT ∧ kd 51 = (0, 40) := ⟨by unfold nxOf; omega, by decide +kernel⟩
theorem kq_52 {nT : Nat} : 52 < nxOf nT ∧ kd 52 = (0, 40) := ⟨by unfold nxOf; omega, by decide +kernel⟩
theorem kq_53 {nT : Nat} : 53 < nxOf nT ∧ kd 53 = (3, 2) := ⟨by unfold nxOf; omega, by decide +kernel⟩
theorem kq_54 {nT : Nat} : 54 < nxOf nT ∧ kd 54 = (3, 1) := ⟨by unfold nxOf; omega, by decide +kernel⟩
theorem kq_55 {nT : Nat} : 55 < nxOf nT ∧ kd 55 = (0, 40) := ⟨by unfold nxOf; omega, by decide +kernel⟩
theorem kq_56 {nT : Nat} : 56 < nxOf nT ∧ kd 56 = (1, 40) := ⟨by unfold nxOf; omega, by decide +kernel⟩
theorem kq_57 {nT : Nat} : 57 < nxOf nT ∧ kd 57 = (0, 40) := ⟨by unfold nxOf; omega, by decide +kernel⟩
theorem kq_58 {nT : Nat} : 58 < nxOf nT ∧ kd 58 = (0, 40) := ⟨by unfold nxOf; omega, by decide +kernel⟩
theorem kq_59 {nT : Nat} : 59 < nxOf nT ∧ kd 59 = (3, 2) := ⟨by unfold nxOf; omega, by decide +kernel⟩
theorem kq_60 {nT : Nat} : 60 < nxOf nT ∧ kd 60 = (3, 1) := ⟨by unfold nxOf; omega, by decide +kernel⟩
theorem kq_61 {nT : Nat} : 61 < nxOf nT ∧ kd 61 = (0, 40) := ⟨by unfold nxOf; omega, by decide +kernel⟩
theorem kq_62 {nT : Nat} : 62 < nxOf nT ∧ kd 62 = (1, 40) := ⟨by unfold nxOf; omega, by decide +kernel⟩
theorem kq_63 {nT : Nat} : 63 < nxOf nT ∧ kd 63 = (0, 40) := ⟨by unfold nxOf; omega, by decide +kernel⟩
theorem kq_64 {nT : Nat} : 64 < nxOf nT ∧ kd 64 = (0, 40) := ⟨by unfold nxOf; omega, by decide +kernel⟩
theorem kq_65 {nT : Nat} : 65 < nxOf nT ∧ kd 65 = (3, 0) := ⟨by unfold nxOf; omega, by decide +kernel⟩
theorem kq_66 {nT : Nat} : 66 < nxOf nT ∧ kd 66 = (3, 1) := ⟨by unfold nxOf; omega, by decide +kernel⟩
theorem kq_67 {nT : Nat} : 67 < nxOf nT ∧ kd 67 = (0, 40) := ⟨by unfold nxOf; omega, by decide +kernel⟩
theorem kq_68 {nT : Nat} : 68 < nxOf nT ∧ kd 68 = (1, 40) := ⟨by unfold nxOf; omega, by decide +kernel⟩
theorem kq_69 {nT : Nat} : 69 < nxOf nT ∧ kd 69 = (0, 40) := ⟨by unfold nxOf; omega, by decide +kernel⟩
theorem kq_70 {nT : Nat} : 70 < nxOf nT ∧ kd 70 = (0, 40) := ⟨by unfold nxOf; omega, by decide +kernel⟩
theorem kq_71 {nT : Nat} : 71 < nxOf nT ∧ kd 71 = (0, 6) := ⟨by unfold nxOf; omega, by decide +kernel⟩
theorem kq_72 {nT : Nat} : 72 < nxOf nT ∧ kd 72 = (0, 6) := ⟨by unfold nxOf; omega, by decide +kernel⟩
theorem kq_73 {nT : Nat} : 73 < nxOf nT ∧ kd 73 = (1, 8) := ⟨by unfold nxOf; omega, by decide +kernel⟩
theorem kq_74 {nT : Nat} : 74 < nxOf nT ∧ kd 74 = (0, 40) := ⟨by unfold nxOf; omega, by decide +kernel⟩
theorem kq_75 {nT : Nat} : 75 < nxOf nT ∧ kd 75 = (0, 40) := ⟨by unfold nxOf; omega, by decide +kernel⟩
theorem kq_76 {nT : Nat} : 76 < nxOf nT ∧ kd 76 = (1, 40) := ⟨by unfold nxOf; omega, by decide +kernel⟩
theorem kq_77 {nT : Nat} : 77 < nxOf nT ∧ kd 77 = (3, 0) := ⟨by unfold nxOf; omega, by decide +kernel⟩
theorem kq_78 {nT : Nat} : 78 < nxOf nT ∧ kd 78 = (3, 1) := ⟨by unfold nxOf; omega, by decide +kernel⟩
theorem kq_79 {nT : Nat} : 79 < nxOf nT ∧ kd 79 = (0, 40) := ⟨by unfold nxOf; omega, by decide +kernel⟩
theorem kq_80 {nT : Nat} : 80 < nxOf nT ∧ kd 80 = (1, 40) := ⟨by unfold nxOf; omega, by decide +kernel⟩
theorem kq_81 {nT : Nat} : 81 < nxOf nT ∧ kd 81 = (0, 40) := ⟨by unfold nxOf; omega, by decide +kernel⟩
theorem kq_82 {nT : Nat} : 82 < nxOf nT ∧ kd 82 = (0, 40) := ⟨by unfold nxOf; omega, by decide +kernel⟩
theorem kq_83 {nT : Nat} : 83 < nxOf nT ∧ kd 83 = (0, 6) := ⟨by unfold nxOf; omega, by decide +kernel⟩
theorem kq_84 {nT : Nat} : 84 < nxOf nT ∧ kd 84 = (0, 6) := ⟨by unfold nxOf; omega, by decide +kernel⟩
theorem kq_85 {nT : Nat} : 85 < nxOf nT ∧ kd 85 = (1, 8) := ⟨by unfold nxOf; omega, by decide +kernel⟩
theorem kq_86 {nT : Nat} : 86 < nxOf nT ∧ kd 86 = (0, 40) := ⟨by unfold nxOf; omega, by decide +kernel⟩
theorem kq_87 {nT : Nat} : 87 < nxOf nT ∧ kd 87 = (0, 40) := ⟨by unfold nxOf; omega, by decide +kernel⟩
theorem kq_88 {nT : Nat} : 88 < nxOf nT ∧ kd 88 = (1, 40) := ⟨by unfold nxOf; omega, by decide +kernel⟩
theorem kq_89 {nT : Nat} : 89 < nxOf nT ∧ kd 89 = (3, 0) := ⟨by unfold nxOf; omega, by decide +kernel⟩
theorem kq_90 {nT : Nat} : 90 < nxOf nT ∧ kd 90 = (3, 1) := ⟨by unfold nxOf; omega, by decide +kernel⟩
theorem kq_91 {nT : Nat} : 91 < nxOf nT ∧ kd 91 = (0, 40) := ⟨by unfold nxOf; omega, by decide +kernel⟩
theorem kq_92 {nT : Nat} : 92 < nxOf nT ∧ kd 92 = (1, 40) := ⟨by unfold nxOf; omega, by decide +kernel⟩
theorem kq_93 {nT : Nat} : 93 < nxOf nT ∧ kd 93 = (0, 40) := ⟨by unfold nxOf; omega, by decide +kernel⟩
theorem kq_94 {nT : Nat} : 94 < nxOf nT ∧ kd 94 = (0, 40) := ⟨by unfold nxOf; omega, by decide +kernel⟩
theorem kq_95 {nT : Nat} : 95 < nxOf nT ∧ kd 95 = (0, 6) := ⟨by unfold nxOf; omega, by decide +kernel⟩
theorem kq_96 {nT : Nat} : 96 < nxOf nT ∧ kd 96 = (0, 6) := ⟨by unfold nxOf; omega, by decide +kernel⟩
theorem kq_97 {nT : Nat} : 97 < nxOf nT ∧ kd 97 = (1, 8) := ⟨by unfold nxOf; omega, by decide +kernel⟩
theorem kq_98 {nT : Nat} : 98 < nxOf nT ∧ kd 98 = (0, 40) := ⟨by unfold nxOf; omega, by decide +kernel⟩
theorem kq_99 {nT : Nat} : 99 < nxOf nT ∧ kd 99 = (0, 40) := ⟨by unfold nxOf; omega, by decide +kernel⟩
theorem kq_100 {nT : Nat} : 100 < nxOf nT ∧ kd 100 = (1, 40) := ⟨by unfold nxOf; omega, by decide +kernel⟩
theorem kq_101 {nT : Nat} : 101 < nxOf nT ∧ kd 101 = (3, 0) := ⟨by unfold nxOf; omega, by decide +kernel⟩
theorem kq_102 {nT : Nat} : 102 < nxOf nT ∧ kd 102 = (3, 1) := ⟨by unfold nxOf; omega, by decide +kernel⟩
theorem kq_103 {nT : Nat} : 103 < nxOf nT ∧ kd 103 = (0, 40) := ⟨by unfold nxOf; omega, by decide +kernel⟩
theorem kq_104 {nT : Nat} : 104 < nxOf nT ∧ kd 104 = (1, 40) := ⟨by unfold nxOf; omega, by decide +kernel⟩
theorem kq_105 {nT : Nat} : 105 < nxOf nT ∧ kd 105 = (0, 40) := ⟨by unfold nxOf; omega, by decide +kernel⟩
theorem kq_106 {nT : Nat} : 106 < nxOf nT ∧ kd 106 = (0, 40) := ⟨by unfold nxOf; omega, by decide +kernel⟩
theorem kq_107 {nT : Nat} : 107 < nxOf nT ∧ kd 107 = (0, 6) := ⟨by unfold nxOf; omega, by decide +kernel⟩
theorem kq_108 {nT : Nat} : 108 < nxOf nT ∧ kd 108 = (0, 6) := ⟨by unfold nxOf; omega, by decide +kernel⟩
theorem kq_109 {nT : Nat} : 109 < nxOf nT ∧ kd 109 = (1, 8) := ⟨by unfold nxOf; omega, by decide +kernel⟩
theorem kq_110 {nT : Nat} : 110 < nxOf nT ∧ kd 110 = (0, 40) := ⟨by unfold nxOf; omega, by decide +kernel⟩
theorem kq_111 {nT : Nat} : 111 < nxOf nT ∧ kd 111 = (0, 40) := ⟨by unfold nxOf; omega, by decide +kernel⟩
theorem kq_112 {nT : Nat} : 112 < nxOf nT ∧ kd 112 = (1, 40) := ⟨by unfold nxOf; omega, by decide +kernel⟩
theorem kq_113 {nT : Nat} : 113 < nxOf nT ∧ kd 113 = (3, 1) := ⟨by unfold nxOf; omega, by decide +kernel⟩
theorem kq_114 {nT : Nat} : 114 < nxOf nT ∧ kd 114 = (0, 40) := ⟨by unfold nxOf; omega, by decide +kernel⟩
theorem kq_115 {nT : Nat} : 115 < nxOf nT ∧ kd 115 = (1, 40) := ⟨by unfold nxOf; omega, by decide +kernel⟩
theorem kq_116 {nT : Nat} : 116 < nxOf nT ∧ kd 116 = (0, 40) := ⟨by unfold nxOf; omega, by decide +kernel⟩
theorem kq_117 {nT : Nat} : 117 < nxOf nT ∧ kd 117 = (0, 40) := ⟨by unfold nxOf; omega, by decide +kernel⟩
theorem kq_118 {nT : Nat} : 118 < nxOf nT ∧ kd 118 = (0, 20) := ⟨by unfold nxOf; omega, by decide +kernel⟩
theorem kq_119 {nT : Nat} : 119 < nxOf nT ∧ kd 119 = (3, 9) := ⟨by unfold nxOf; omega, by decide +kernel⟩
theorem kq_120 {nT : Nat} : 120 < nxOf nT ∧ kd 120 = (0, 40) := ⟨by unfold nxOf; omega, by decide +kernel⟩
theorem kq_121 {nT : Nat} : 121 < nxOf nT ∧ kd 121 = (1, 40) := ⟨by unfold nxOf; omega, by decide +kernel⟩
theorem kq_122 {nT : Nat} : 122 < nxOf nT ∧ kd 122 = (0, 40) := ⟨by unfold nxOf; omega, by decide +kernel⟩
theorem kq_123 {nT : Nat} : 123 < nxOf nT ∧ kd 123 = (0, 40) := ⟨by unfold nxOf; omega, by decide +kernel⟩
theorem kq_124 {nT : Nat} : 124 < nxOf nT ∧ kd 124 = (0, 40) := ⟨by unfold nxOf; omega, by decide +kernel⟩
theorem kq_125 {nT : Nat} : 125 < nxOf nT ∧ kd 125 = (0, 40) := ⟨by unfold nxOf; omega, by decide +kernel⟩
theorem kq_126 {nT : Nat} : 126 < nxOf nT ∧ kd 126 = (0, 40) := ⟨by unfold nxOf; omega, by decide +kernel⟩
theorem kq_127 {nT : Nat} : 127 < nxOf nT ∧ kd 127 = (0, 480) := ⟨by unfold nxOf; omega, by decide +kernel⟩
theorem kq_128 {nT : Nat} : 128 < nxOf nT ∧ kd 128 = (0, 16) := ⟨by unfold nxOf; omega, by decide +kernel⟩
theorem kq_129 {nT : Nat} : 129 < nxOf nT ∧ kd 129 = (0, 384) := ⟨by unfold nxOf; omega, by decide +kernel⟩
theorem kq_130 {nT : Nat} : 130 < nxOf nT ∧ kd 130 = (0, 384) := ⟨by unfold nxOf; omega, by decide +kernel⟩
theorem kq_131 {nT : Nat} : 131 < nxOf nT ∧ kd 131 = (0, 384) := ⟨by unfold nxOf; omega, by decide +kernel⟩
theorem kq_132 {nT : Nat} : 132 < nxOf nT ∧ kd 132 = (0, 16) := ⟨by unfold nxOf; omega, by decide +kernel⟩
theorem kq_133 {nT : Nat} : 133 < nxOf nT ∧ kd 133 = (0, 10) := ⟨by unfold nxOf; omega, by decide +kernel⟩
theorem kq_134 {nT : Nat} : 134 < nxOf nT ∧ kd 134 = (0, 10) := ⟨by unfold nxOf; omega, by decide +kernel⟩
theorem kq_135 {nT : Nat} : 135 < nxOf nT ∧ kd 135 = (0, 10) := ⟨by unfold nxOf; omega, by decide +kernel⟩
theorem kq_136 {nT : Nat} : 136 < nxOf nT ∧ kd 136 = (1, 10) := ⟨by unfold nxOf; omega, by decide +kernel⟩
theorem kq_137 {nT : Nat} : 137 < nxOf nT ∧ kd 137 = (0, 20) := ⟨by unfold nxOf; omega, by decide +kernel⟩
theorem kq_138 {nT : Nat} : 138 < nxOf nT ∧ kd 138 = (0, 20) := ⟨by unfold nxOf; omega, by decide +kernel⟩
theorem kq_139 {nT : Nat} : 139 < nxOf nT ∧ kd 139 = (0, 20) := ⟨by unfold nxOf; omega, by decide +kernel⟩
theorem kq_140 {nT : Nat} : 140 < nxOf nT ∧ kd 140 = (0, 20) := ⟨by unfold nxOf; omega, by decide +kernel⟩
theorem kq_141 {nT : Nat} : 141 < nxOf nT ∧ kd 141 = (0, 20) := ⟨by unfold nxOf; omega, by decide +kernel⟩
theorem kq_142 {nT : Nat} : 142 < nxOf nT ∧ kd 142 = (0, 20) := ⟨by unfold nxOf; omega, by decide +kernel⟩
theorem kq_143 {nT : Nat} : 143 < nxOf nT ∧ kd 143 = (0, 20) := ⟨by unfold nxOf; omega, by decide +kernel⟩
theorem kq_144 {nT : Nat} : 144 < nxOf nT ∧ kd 144 = (0, 20) := ⟨by unfold nxOf; omega, by decide +kernel⟩
theorem kq_145 {nT : Nat} : 145 < nxOf nT ∧ kd 145 = (0, 20) := ⟨by unfold nxOf; omega, by decide +kernel⟩
theorem kq_146 {nT : Nat} : 146 < nxOf nT ∧ kd 146 = (1, 160) := ⟨by unfold nxOf; omega, by decide +kernel⟩
theorem kq_147 {nT : Nat} : 147 < nxOf nT ∧ kd 147 = (0, 20) := ⟨by unfold nxOf; omega, by decide +kernel⟩
theorem kq_148 {nT : Nat} : 148 < nxOf nT ∧ kd 148 = (2, 20) := ⟨by unfold nxOf; omega, by decide +kernel⟩
theorem kq_149 {nT : Nat} : 149 < nxOf nT ∧ kd 149 = (0, 20) := ⟨by unfold nxOf; omega, by decide +kernel⟩
theorem kq_150 {nT : Nat} : 150 < nxOf nT ∧ kd 150 = (0, 20) := ⟨by unfold nxOf; omega, by decide +kernel⟩
theorem kq_151 {nT : Nat} : 151 < nxOf nT ∧ kd 151 = (2, 800) := ⟨by unfold nxOf; omega, by decide +kernel⟩
theorem kq_152 {nT : Nat} : 152 < nxOf nT ∧ kd 152 = (0, 20) := ⟨by unfold nxOf; omega, by decide +kernel⟩
theorem kq_153 {nT : Nat} : 153 < nxOf nT ∧ kd 153 = (0, 120) := ⟨by unfold nxOf; omega, by decide +kernel⟩
theorem kq_154 {nT : Nat} : 154 < nxOf nT ∧ kd 154 = (0, 120) := ⟨by unfold nxOf; omega, by decide +kernel⟩
theorem kq_155 {nT : Nat} : 155 < nxOf nT ∧ kd 155 = (0, 20) := ⟨by unfold nxOf; omega, by decide +kernel⟩
theorem kq_156 {nT : Nat} : 156 < nxOf nT ∧ kd 156 = (0, 40) := ⟨by unfold nxOf; omega, by decide +kernel⟩
theorem kq_157 {nT : Nat} : 157 < nxOf nT ∧ kd 157 = (0, 40) := ⟨by unfold nxOf; omega, by decide +kernel⟩
theorem kq_158 {nT : Nat} : 158 < nxOf nT ∧ kd 158 = (1, 40) := ⟨by unfold nxOf; omega, by decide +kernel⟩
theorem kq_159 {nT : Nat} : 159 < nxOf nT ∧ kd 159 = (0, 4) := ⟨by unfold nxOf; omega, by decide +kernel⟩
theorem kq_160 {nT : Nat} : 160 < nxOf nT ∧ kd 160 = (0, 4) := ⟨by unfold nxOf; omega, by decide +kernel⟩
theorem kq_161 {nT : Nat} : 161 < nxOf nT ∧ kd 161 = (0, 4) := ⟨by unfold nxOf; omega, by decide +kernel⟩
theorem kq_162 {nT : Nat} : 162 < nxOf nT ∧ kd 162 = (0, 4) := ⟨by unfold nxOf; omega, by decide +kernel⟩
theorem kq_163 {nT : Nat} : 163 < nxOf nT ∧ kd 163 = (2, 160) := ⟨by unfold nxOf; omega, by decide +kernel⟩
theorem kq_164 {nT : Nat} : 164 < nxOf nT ∧ kd 164 = (0, 160) := ⟨by unfold nxOf; omega, by decide +kernel⟩
theorem kq_165 {nT : Nat} : 165 < nxOf nT ∧ kd 165 = (1, 160) := ⟨by unfold nxOf; omega, by decide +kernel⟩
theorem kq_166 {nT : Nat} : 166 < nxOf nT ∧ kd 166 = (0, 160) := ⟨by unfold nxOf; omega, by decide +kernel⟩
theorem kq_167 {nT : Nat} : 167 < nxOf nT ∧ kd 167 = (0, 160) := ⟨by unfold nxOf; omega, by decide +kernel⟩
theorem kq_168 {nT : Nat} : 168 < nxOf nT ∧ kd 168 = (2, 160) := ⟨by unfold nxOf; omega, by decide +kernel⟩
theorem kq_169 {nT : Nat} : 169 < nxOf nT ∧ kd 169 = (0, 160) := ⟨by unfold nxOf; omega, by decide +kernel⟩
theorem kq_170 {nT : Nat} : 170 < nxOf nT ∧ kd 170 = (0, 4) := ⟨by unfold nxOf; omega, by decide +kernel⟩
theorem kq_171 {nT : Nat} : 171 < nxOf nT ∧ kd 171 = (1, 32) := ⟨by unfold nxOf; omega, by decide +kernel⟩
theorem kq_172 {nT : Nat} : 172 < nxOf nT ∧ kd 172 = (0, 4) := ⟨by unfold nxOf; omega, by decide +kernel⟩
theorem kq_173 {nT : Nat} : 173 < nxOf nT ∧ kd 173 = (0, 160) := ⟨by unfold nxOf; omega, by decide +kernel⟩
theorem kq_174 {nT : Nat} : 174 < nxOf nT ∧ kd 174 = (0, 160) := ⟨by unfold nxOf; omega, by decide +kernel⟩
theorem kq_175 {nT : Nat} : 175 < nxOf nT ∧ kd 175 = (1, 160) := ⟨by unfold nxOf; omega, by decide +kernel⟩
theorem kq_176 {nT : Nat} : 176 < nxOf nT ∧ kd 176 = (0, 4) := ⟨by unfold nxOf; omega, by decide +kernel⟩
theorem kq_177 {nT : Nat} : 177 < nxOf nT ∧ kd 177 = (0, 24) := ⟨by unfold nxOf; omega, by decide +kernel⟩
theorem kq_178 {nT : Nat} : 178 < nxOf nT ∧ kd 178 = (0, 24) := ⟨by unfold nxOf; omega, by decide +kernel⟩
theorem kq_179 {nT : Nat} : 179 < nxOf nT ∧ kd 179 = (0, 24) := ⟨by unfold nxOf; omega, by decide +kernel⟩
theorem kq_180 {nT : Nat} : 180 < nxOf nT ∧ kd 180 = (1, 24) := ⟨by unfold nxOf; omega, by decide +kernel⟩
theorem kq_181 {nT : Nat} : 181 < nxOf nT ∧ kd 181 = (0, 24) := ⟨by unfold nxOf; omega, by decide +kernel⟩
theorem kq_182 {nT : Nat} : 182 < nxOf nT ∧ kd 182 = (0, 24) := ⟨by unfold nxOf; omega, by decide +kernel⟩
theorem kq_183 {nT : Nat} : 183 < nxOf nT ∧ kd 183 = (2, 240) := ⟨by unfold nxOf; omega, by decide +kernel⟩
theorem kq_184 {nT : Nat} : 184 < nxOf nT ∧ kd 184 = (0, 240) := ⟨by unfold nxOf; omega, by decide +kernel⟩
theorem kq_185 {nT : Nat} : 185 < nxOf nT ∧ kd 185 = (1, 240) := ⟨by unfold nxOf; omega, by decide +kernel⟩
theorem kq_186 {nT : Nat} : 186 < nxOf nT ∧ kd 186 = (0, 240) := ⟨by unfold nxOf; omega, by decide +kernel⟩
theorem kq_187 {nT : Nat} : 187 < nxOf nT ∧ kd 187 = (0, 240) := ⟨by unfold nxOf; omega, by decide +kernel⟩
theorem kq_188 {nT : Nat} : 188 < nxOf nT ∧ kd 188 = (0, 4) := ⟨by unfold nxOf; omega, by decide +kernel⟩
/-! the cells that come in numbers -/
def isC (q : Nat) : Prop := q ∈ [2, 30, 36, 42, 48, 54, 60, 66, 78, 90, 102, 113]
def isA (q : Nat) : Prop := q ∈ [65, 77, 89, 101]
def isM (q : Nat) : Prop := q ∈ [29, 35, 41, 47, 53, 59]
def okT (nT q : Nat) : Prop := ∃ t, t < nT ∧ q = 189 + 4 * t
theorem kfix {nT q : Nat} {k : Nat × Nat} (h : q < 189 ∧ kd q = k) : q < nxOf nT ∧ kd q = k := ⟨by unfold nxOf; omega, h.2⟩
theorem isC_2 : isC 2 := by unfold isC; decide
theorem isC_113 : isC 113 := by unfold isC; decide
theorem kC_0 {nT q : Nat} (h : isC q) : q < nxOf nT ∧ kd (q) = (3, 1) := kfix ((by decide +kernel : ∀ q ∈ [2, 30, 36, 42, 48, 54, 60, 66, 78, 90, 102, 113], q < 189 ∧ kd (q) = (3, 1)) q h)
theorem kC_1 {nT q : Nat} (h : isC q) : q + 1 < nxOf nT ∧ kd (q + 1) = (0, 40) := kfix ((by decide +kernel : ∀ q ∈ [2, 30, 36, 42, 48, 54, 60, 66, 78, 90, 102, 113], q + 1 < 189 ∧ kd (q + 1) = (0, 40)) q h)
theorem kC_2 {nT q : Nat} (h : isC q) : q + 2 < nxOf nT ∧ kd (q + 2) = (1, 40) := kfix ((by decide +kernel : ∀ q ∈ [2, 30, 36, 42, 48, 54, 60, 66, 78, 90, 102, 113], q + 2 < 189 ∧ kd (q + 2) = (1, 40)) q h)
theorem kC_3 {nT q : Nat} (h : isC q) : q + 3 < nxOf nT ∧ kd (q + 3) = (0, 40) := kfix ((by decide +kernel : ∀ q ∈ [2, 30, 36, 42, 48, 54, 60, 66, 78, 90, 102, 113], q + 3 < 189 ∧ kd (q + 3) = (0, 40)) q h)
theorem kC_4 {nT q : Nat} (h : isC q) : q + 4 < nxOf nT ∧ kd (q + 4) = (0, 40) := kfix ((by decide +kernel : ∀ q ∈ [2, 30, 36, 42, 48, 54, 60, 66, 78, 90, 102, 113], q + 4 < 189 ∧ kd (q + 4) = (0, 40)) q h)
theorem kA_0 {nT q : Nat} (h : isA q) : q < nxOf nT ∧ kd (q) = (3, 0) := kfix ((by decide +kernel : ∀ q ∈ [65, 77, 89, 101], q < 189 ∧ kd (q) = (3, 0)) q h)
theorem kA_6 {nT q : Nat} (h : isA q) : q + 6 < nxOf nT ∧ kd (q + 6) = (0, 6) := kfix ((by decide +kernel : ∀ q ∈ [65, 77, 89, 101], q + 6 < 189 ∧ kd (q + 6) = (0, 6)) q h)
theorem kA_7 {nT q : Nat} (h : isA q) : q + 7 < nxOf nT ∧ kd (q + 7) = (0, 6) := kfix ((by decide +kernel : ∀ q ∈ [65, 77, 89, 101], q + 7 < 189 ∧ kd (q + 7) = (0, 6)) q h)
theorem kA_8 {nT q : Nat} (h : isA q) : q + 8 < nxOf nT ∧ kd (q + 8) = (1, 8) := kfix ((by decide +kernel : ∀ q ∈ [65, 77, 89, 101], q + 8 < 189 ∧ kd (q + 8) = (1, 8)) q h)
theorem kA_9 {nT q : Nat} (h : isA q) : q + 9 < nxOf nT ∧ kd (q + 9) = (0, 40) := kfix ((by decide +kernel : ∀ q ∈ [65, 77, 89, 101], q + 9 < 189 ∧ kd (q + 9) = (0, 40)) q h)
theorem kA_10 {nT q : Nat} (h : isA q) : q + 10 < nxOf nT ∧ kd (q + 10) = (0, 40) := kfix ((by decide +kernel : ∀ q ∈ [65, 77, 89, 101], q + 10 < 189 ∧ kd (q + 10) = (0, 40)) q h)
theorem kA_11 {nT q : Nat} (h : isA q) : q + 11 < nxOf nT ∧ kd (q + 11) = (1, 40) := kfix ((by decide +kernel : ∀ q ∈ [65, 77, 89, 101], q + 11 < 189 ∧ kd (q + 11) = (1, 40)) q h)
theorem kA_own {q : Nat} (h : isA q) : isC (q + 1) := (by unfold isC; decide +kernel : ∀ q ∈ [65, 77, 89, 101], isC (q + 1)) q h
theorem kM_0 {nT q : Nat} (h : isM q) : q < nxOf nT ∧ kd q = (3, 2) := kfix ((by decide +kernel : ∀ q ∈ [29, 35, 41, 47, 53, 59], q < 189 ∧ kd q = (3, 2)) q h)
theorem kM_own {q : Nat} (h : isM q) : isC (q + 1) := (by unfold isC; decide +kernel : ∀ q ∈ [29, 35, 41, 47, 53, 59], isC (q + 1)) q h
theorem kT_1 {nT q : Nat} (h : okT nT q) : q + 1 < nxOf nT ∧ kd (q + 1) = (0, 6) := by
  obtain ⟨t, h1, rfl⟩ := h
  refine ⟨by unfold nxOf; omega, ?_⟩
  unfold kd
  rw [if_neg (by omega), show (189 + 4 * t + 1 - 189) % 4 = 1 by omega]
  rfl
theorem kT_2 {nT q : Nat} (h : okT nT q) : q + 2 < nxOf nT ∧ kd (q + 2) = (0, 6) := by
  obtain ⟨t, h1, rfl⟩ := h
  refine ⟨by unfold nxOf; omega, ?_⟩
  unfold kd
  rw [if_neg (by omega), show (189 + 4 * t + 2 - 189) % 4 = 2 by omega]
  rfl
theorem kT_3 {nT q : Nat} (h : okT nT q) : q + 3 < nxOf nT ∧ kd (q + 3) = (1, 8) := by
  obtain ⟨t, h1, rfl⟩ := h
  refine ⟨by unfold nxOf; omega, ?_⟩
  unfold kd
  rw [if_neg (by omega), show (189 + 4 * t + 3 - 189) % 4 = 3 by omega]
  rfl
theorem kT_0 {nT q : Nat} (h : okT nT q) : q < nxOf nT ∧ kd q = (3, 6) := by
  obtain ⟨t, h1, rfl⟩ := h
  refine ⟨by unfold nxOf; omega, ?_⟩
  unfold kd
  rw [if_neg (by omega), show (189 + 4 * t - 189) % 4 = 0 by omega]
  rfl
theorem okT_of {nT : Nat} {i : Int32} (h : decide (i.toNatClampNeg < nT) = true) : okT nT (189 + 4 * i.toNatClampNeg) := ⟨_, of_decide_eq_true h, rfl⟩
theorem isA_of {i : Int32} (h : inR i 4 = true) : isA (65 + 12 * i.toNatClampNeg) := by
  have h := inR_lt h
  unfold isA
  generalize i.toNatClampNeg = k at h ⊢
  rcases (show k = 0 ∨ k = 1 ∨ k = 2 ∨ k = 3 by omega) with rfl | rfl | rfl | rfl <;> decide
theorem isM_of {i : Int32} (h : inR i 6 = true) : isM (29 + 6 * i.toNatClampNeg) := by
  have h := inR_lt h
  unfold isM
  generalize i.toNatClampNeg = k at h ⊢
  rcases (show k = 0 ∨ k = 1 ∨ k = 2 ∨ k = 3 ∨ k = 4 ∨ k = 5 by omega) with rfl | rfl | rfl | rfl | rfl | rfl <;> decide
theorem nar_bI (b : Bool) : narrow .boolean (.int (bI b)) = .int (bI b) := by cases b <;> rfl
theorem fits_bool {v : Int32} (h : narrow .boolean (.int v) = .int v) : fits .boolean (.int v) = true := by
  have e : v &&& 1 = v := Value.int.inj h
  have h : v = 0 ∨ v = 1 := by
    rw [← e, pk_and v (m := 1) 1 (by decide +kernel)]
    rcases Nat.mod_two_eq_zero_or_one v.toBitVec.toNat with h | h
    · left; rw [show 2 ^ 1 = 2 from rfl, h]; decide +kernel
    · right; rw [show 2 ^ 1 = 2 from rfl, h]; decide +kernel
  rcases h with h | h <;> rw [h] <;> rfl
def ushrL (x : Int64) (y : Int32) : Int64 := (x.toUInt64 >>> (y.toInt64.toUInt64 &&& Int64.toUInt64 63)).toInt64
/-- enough turns for every loop -/
def FU : Nat := 5000
theorem em_fi {B : Nat} {cy : Nat → ClassId} {nT : Nat} {M : Mem} {q ci k : Nat} {v : Int32} (hk : kd q = (3, ci)) : EM B cy nT (sI M q k v) q = .inr (ci, objF B q ci (upd (M.1 q) k v) (M.2.1 q)) := by
  rw [em_f hk]
  show (Sum.inr (ci, objF B q ci (up2 M.1 q k v q) (M.2.1 q)) : va_E) = _
  rw [up2_s]
theorem em_fl {B : Nat} {cy : Nat → ClassId} {nT : Nat} {M : Mem} {q ci k : Nat} {v : Int64} (hk : kd q = (3, ci)) : EM B cy nT (sL M q k v) q = .inr (ci, objF B q ci (M.1 q) (vp_updL (M.2.1 q) k v)) := by
  rw [em_f hk]
  show (Sum.inr (ci, objF B q ci (M.1 q) (up2 M.2.1 q k v q)) : va_E) = _
  rw [up2_sl]
theorem pr1 {α β : Type} {v : α} {M : β} {out : α × β} (h : some (v, M) = some out) : v = out.1 := by cases h; rfl
theorem pr2 {α β : Type} {v : α} {M : β} {out : α × β} (h : some (v, M) = some out) : M = out.2 := by cases h; rfl
theorem prb {β : Type} {v : Bool} {M : β} {out : Bool × β} (h : some (v, M) = some out) : bI v = bI out.1 := by cases h; rfl
theorem pr0 {α : Type} {v out : α} (h : some v = some out) : v = out := by cases h; rfl
theorem prz {v out : Bool} (h : some v = some out) : bI v = bI out := by cases h; rfl

/-! MAKERS: the heap from B on is a list of cells, cs0 ++ t; q = cs0.length -/
def PT (G : va_G) (B : Nat) (cs : List va_E) (H : Heap) : Prop := H.size = B + cs.length ∧ ∀ (i : Nat) (e : va_E), cs[i]? = some e → va_at G vwCl (B + i, e) H
def AO3 (U : State) : Prop := va_AO RX6 U ∧ va_AO RX0 U ∧ va_AO RX2 U
theorem AO3.moved {u U : State} (hvm : u.vm.Alike U.vm) (h : AO3 u) : AO3 U := ⟨va_AO.moved hvm h.1, va_AO.moved hvm h.2.1, va_AO.moved hvm h.2.2⟩
def PUT (G : va_G) (B : Nat) (cy : Nat → ClassId) (cs : List va_E) (U : State) : Prop := PT G B cs U.heap ∧ Kn G cy U ∧ AO3 U
theorem PUT.blind {G : va_G} {B : Nat} {cy : Nat → ClassId} {cs : List va_E} {av : List Value} : FrameBlind (va_Pc av (PUT G B cy cs)) := fun a U g mk q => ⟨q.1, q.2.1, ⟨va_K.moved (u := U) (U := U.calling g mk a) (Vm.Alike.refl U.vm) q.2.2.1.1, fun x hx => va_Nw.same rfl rfl (q.2.2.1.2 x hx)⟩, AO3.moved (u := U) (U := U.calling g mk a) (Vm.Alike.refl U.vm) q.2.2.2⟩
def QvT (G : va_G) (B : Nat) (cs : List va_E) : Array Value → State → Outcome → State → Prop := va_Qv (S := Unit) (fun _ => True) (fun _ t => PT G B cs t.heap) (FB B)
theorem PT.upd {G : va_G} {B : Nat} {cs : List va_E} {H H1 : Heap} {q : Nat} {e : va_E} (h : PT G B cs H) (hz : H1.size = H.size) (ho : ∀ x, x ≠ B + q → H1[x]? = H[x]?) (he : va_at G vwCl (B + q, e) H1) : PT G B (cs.set q e) H1 := by
  refine ⟨by rw [hz, h.1, List.length_set], fun i e' hi => ?_⟩
  rw [List.getElem?_set] at hi
  by_cases hq : q = i
  · subst hq
    by_cases hl : q < cs.length
    · simp [hl] at hi
      rw [← hi]
      exact he
    · simp [hl] at hi
  · simp [hq] at hi
    exact (h.2 i e' hi).kept (ho _ (by show B + i ≠ B + q; omega))
theorem PT.push {G : va_G} {B : Nat} {cs : List va_E} {H H1 : Heap} {e : va_E} (h : PT G B cs H) (hz : H1.size = H.size + 1) (ho : ∀ x, x < H.size → H1[x]? = H[x]?) (he : va_at G vwCl (B + cs.length, e) H1) : PT G B (cs ++ [e]) H1 := by
  refine ⟨by rw [hz, h.1, List.length_append]; rfl, fun i e' hi => ?_⟩
  by_cases hl : i < cs.length
  · rw [List.getElem?_append_left hl] at hi
    have hlt : B + i < H.size := by rw [h.1]; omega
    exact (h.2 i e' hi).kept (ho _ hlt)
  · rw [List.getElem?_append_right (by omega)] at hi
    have hz : i - cs.length < 1 := (List.getElem?_eq_some_iff.mp hi).1
    have hi0 : i = cs.length := by omega
    rw [show i - cs.length = 0 by omega] at hi
    cases hi
    rw [hi0]
    exact he
theorem ap_get {α : Type} {cs0 t : List α} {q j : Nat} (hq : cs0.length = q) : (cs0 ++ t)[q + j]? = t[j]? := by
  rw [List.getElem?_append_right (by omega), ← hq]
  congr 1
  omega
theorem ap_set {α : Type} {cs0 t : List α} {q j : Nat} {e : α} (hq : cs0.length = q) : (cs0 ++ t).set (q + j) e = cs0 ++ t.set j e := by
  rw [List.set_append_right _ _ (by omega), ← hq]
  congr 2
  omega
theorem va_S.grow {A : Nat → Prop} {H0 H H1 : Heap} {locs : List Loc} (h : va_S A H0 H locs) (z : H1.size = H.size + 1) (o : ∀ x, x < H.size → H1[x]? = H[x]?) : va_S A H0 H1 locs := ⟨Nat.le_trans h.1 (by omega), fun x h1 h2 => (o x (Nat.lt_of_lt_of_le h1 h.1)).trans (h.2.1 x h1 h2), h.2.2⟩
section MAKE
variable {p : Program} {l : Launch} {e : Env} {R : Room} {s : State} {m : MethodId} {args : Array Value} {below : List Frame} {meth : Method} {c : Code} {H : Heap} {locs : List Loc} {cells slots : Nat} {Q : State → Prop}
variable {cc : ByteArray} {own : String} {nL : Nat} {rt : Option FieldType} {G : va_G} {cy : Nat → ClassId} {B : Nat} {cs0 t : List va_E} {pc : Nat} {ls : Array Slot} {rest st0 : List Value} {q j n : Nat} {i : Int32}
theorem e_new {C : String} {T : u_T} {N ci index : Nat} (X : Cx p s m args meth c cc own nL rt G cy) (hP : PT G B (cs0 ++ t) H) (hq : cs0.length = q) (hS : va_S (FB B) s.heap H locs) (hin : ∀ w ∈ u_ws C T N, w ∈ wsA) (ty : Nat → FieldType) (hty : ∀ k, k < N → parseFieldDescriptor (T k).2.2.1 = some (ty k)) (hcl : Cond.classLink own index C ∈ wsA) (hinst : Cond.instantiable C N ∈ wsA) (hini : Cond.initialized C ∈ wsA) (hc : vwCl[ci]? = some (C, T, N)) (fs : List Value) (hfs : ∀ j, j < N → defaultValue (ty j) = vp_V fs j) (hn : t.length = n) (hcells : cells + 1 ≤ R.cells) (hslots : slots + N ≤ R.slots) (hdg : decode cc pc = .ok (.new index, 3))
    (kk : ∀ H1 : Heap, PT G B (cs0 ++ (t ++ [.inr (ci, fs)])) H1 → va_S (FB B) s.heap H1 locs → W p l e R s m args below meth c H1 locs (cells + 1) (slots + N) Q (F0 m (pc + 3) ls (.ref (B + (q + n)) :: rest))) : W p l e R s m args below meth c H locs cells slots Q (F0 m pc ls rest) := by
  have hts := X.2.2.2.2.2.1
  have hKn := X.2.2.2.2.2.2.1.1.1 ci _ hc
  have hlen : (cs0 ++ t).length = q + n := by rw [List.length_append, hq, hn]
  have hsz : H.size = B + (q + n) := by rw [hP.1, hlen]
  refine W.newcK X.1 X.2.1 X.2.2.2.2.1 (hts _ hcl) (hts _ hinst) (hts _ hini) rfl hdg hcells hslots hKn.2.1 hsz fun H1 kC hkC e1 z1 o1 => ?_
  refine kk H1 ?_ (hS.grow (by rw [z1, hsz]) (fun x hx => o1 x (by rw [← hsz]; exact hx)))
  rw [← List.append_assoc]
  exact hP.push (by rw [z1, hsz]) (fun x hx => o1 x (by rw [← hsz]; exact hx)) (by rw [hlen]; exact ⟨_, hc, (u_born ty hts hin hKn hkC e1 hty).to hfs⟩)
theorem e_newI {k : Int32} {N : Nat} (X : Cx p s m args meth c cc own nL rt G cy) (hP : PT G B (cs0 ++ t) H) (hq : cs0.length = q) (hS : va_S (FB B) s.heap H locs) (harr : Cond.arrayClass .int ∈ wsA) (hn : t.length = n) (hk : ¬ k < 0) (hN : k.toNatClampNeg = N) (hb : N * 4 ≤ 536870912) (hcells : cells + 1 ≤ R.cells) (hslots : slots + N ≤ R.slots) (hdg : decode cc pc = .ok (.newarray .int, 2))
    (kk : ∀ H1 : Heap, PT G B (cs0 ++ (t ++ [.inl (cy 0, N, .inl (fun _ => 0))])) H1 → va_S (FB B) s.heap H1 locs → W p l e R s m args below meth c H1 locs (cells + 1) (slots + N) Q (F0 m (pc + 2) ls (.ref (B + (q + n)) :: rest))) : W p l e R s m args below meth c H locs cells slots Q (F0 m pc ls (.int k :: rest)) := by
  have hlen : (cs0 ++ t).length = q + n := by rw [List.length_append, hq, hn]
  have hsz : H.size = B + (q + n) := by rw [hP.1, hlen]
  refine va_newaK (atype := .int) X.1 X.2.1 (X.2.2.2.2.2.1 _ harr) rfl hdg rfl hk hN hb hcells hslots hsz fun H1 cA e1 z1 o1 _ hc => ?_
  have hcA : cA = cy 0 := Option.some.inj (hc.symm.trans (X.2.2.2.2.2.2.1.1.2 0 _ rfl).2)
  subst hcA
  refine kk H1 ?_ (hS.grow (by rw [z1, hsz]) (fun x hx => o1 x (by rw [← hsz]; exact hx)))
  rw [← List.append_assoc]
  exact hP.push (by rw [z1, hsz]) (fun x hx => o1 x (by rw [← hsz]; exact hx)) (by rw [hlen]; exact e1)
theorem e_newL {k : Int32} {N : Nat} (X : Cx p s m args meth c cc own nL rt G cy) (hP : PT G B (cs0 ++ t) H) (hq : cs0.length = q) (hS : va_S (FB B) s.heap H locs) (harr : Cond.arrayClass .long ∈ wsA) (hn : t.length = n) (hk : ¬ k < 0) (hN : k.toNatClampNeg = N) (hb : N * 8 ≤ 536870912) (hcells : cells + 1 ≤ R.cells) (hslots : slots + N ≤ R.slots) (hdg : decode cc pc = .ok (.newarray .long, 2))
    (kk : ∀ H1 : Heap, PT G B (cs0 ++ (t ++ [.inl (cy 1, N, .inr (.inl (fun _ => 0)))])) H1 → va_S (FB B) s.heap H1 locs → W p l e R s m args below meth c H1 locs (cells + 1) (slots + N) Q (F0 m (pc + 2) ls (.ref (B + (q + n)) :: rest))) : W p l e R s m args below meth c H locs cells slots Q (F0 m pc ls (.int k :: rest)) := by
  have hlen : (cs0 ++ t).length = q + n := by rw [List.length_append, hq, hn]
  have hsz : H.size = B + (q + n) := by rw [hP.1, hlen]
  refine va_newaK (atype := .long) X.1 X.2.1 (X.2.2.2.2.2.1 _ harr) rfl hdg rfl hk hN hb hcells hslots hsz fun H1 cA e1 z1 o1 _ hc => ?_
  have hcA : cA = cy 1 := Option.some.inj (hc.symm.trans (X.2.2.2.2.2.2.1.1.2 1 _ rfl).2)
  subst hcA
  refine kk H1 ?_ (hS.grow (by rw [z1, hsz]) (fun x hx => o1 x (by rw [← hsz]; exact hx)))
  rw [← List.append_assoc]
  exact hP.push (by rw [z1, hsz]) (fun x hx => o1 x (by rw [← hsz]; exact hx)) (by rw [hlen]; exact e1)
theorem e_newZ {k : Int32} {N : Nat} (X : Cx p s m args meth c cc own nL rt G cy) (hP : PT G B (cs0 ++ t) H) (hq : cs0.length = q) (hS : va_S (FB B) s.heap H locs) (harr : Cond.arrayClass .boolean ∈ wsA) (hn : t.length = n) (hk : ¬ k < 0) (hN : k.toNatClampNeg = N) (hb : N * 1 ≤ 536870912) (hcells : cells + 1 ≤ R.cells) (hslots : slots + N ≤ R.slots) (hdg : decode cc pc = .ok (.newarray .boolean, 2))
    (kk : ∀ H1 : Heap, PT G B (cs0 ++ (t ++ [.inl (cy 2, N, .inl (fun _ => 0))])) H1 → va_S (FB B) s.heap H1 locs → W p l e R s m args below meth c H1 locs (cells + 1) (slots + N) Q (F0 m (pc + 2) ls (.ref (B + (q + n)) :: rest))) : W p l e R s m args below meth c H locs cells slots Q (F0 m pc ls (.int k :: rest)) := by
  have hlen : (cs0 ++ t).length = q + n := by rw [List.length_append, hq, hn]
  have hsz : H.size = B + (q + n) := by rw [hP.1, hlen]
  refine va_newaK (atype := .boolean) X.1 X.2.1 (X.2.2.2.2.2.1 _ harr) rfl hdg rfl hk hN hb hcells hslots hsz fun H1 cA e1 z1 o1 _ hc => ?_
  have hcA : cA = cy 2 := Option.some.inj (hc.symm.trans (X.2.2.2.2.2.2.1.1.2 2 _ rfl).2)
  subst hcA
  refine kk H1 ?_ (hS.grow (by rw [z1, hsz]) (fun x hx => o1 x (by rw [← hsz]; exact hx)))
  rw [← List.append_assoc]
  exact hP.push (by rw [z1, hsz]) (fun x hx => o1 x (by rw [← hsz]; exact hx)) (by rw [hlen]; exact e1)
theorem e_newQ {C : String} {a index : Nat} {k : Int32} {N : Nat} (X : Cx p s m args meth c cc own nL rt G cy) (hP : PT G B (cs0 ++ t) H) (hq : cs0.length = q) (hS : va_S (FB B) s.heap H locs) (hcl : Cond.classLink own index C ∈ wsA) (hov : va_AO C s) (hty : (tysOf cy)[a]? = some (cy a, .object C)) (hn : t.length = n) (hk : ¬ k < 0) (hN : k.toNatClampNeg = N) (hb : N * 4 ≤ 536870912) (hcells : cells + 1 ≤ R.cells) (hslots : slots + N ≤ R.slots) (hdg : decode cc pc = .ok (.anewarray index, 3))
    (kk : ∀ H1 : Heap, PT G B (cs0 ++ (t ++ [.inl (cy a, N, .inr (.inr (.inr (.inr (fun _ => none)))))])) H1 → va_S (FB B) s.heap H1 locs → W p l e R s m args below meth c H1 locs (cells + 1) (slots + N) Q (F0 m (pc + 3) ls (.ref (B + (q + n)) :: rest))) : W p l e R s m args below meth c H locs cells slots Q (F0 m pc ls (.int k :: rest)) := by
  subst hN
  have hlen : (cs0 ++ t).length = q + n := by rw [List.length_append, hq, hn]
  have hsz : H.size = B + (q + n) := by rw [hP.1, hlen]
  refine W.anew X.1 X.2.1 X.2.2.2.2.1 (X.2.2.2.2.2.1 _ hcl) (va_AO.use hov) rfl hdg rfl hk hb hcells hslots fun cA kA comp f1 f2 f3 f4 => ?_
  have hcA : cA = cy a := by
    obtain ⟨-, k2, c2, g1, g2, g3, g4⟩ := X.2.2.2.2.2.2.1.1.2 a _ hty
    exact Option.some.inj (f1.symm.trans g4)
  subst hcA
  generalize hH1 : H.push ({ cls := cy a, slots := Array.replicate k.toNatClampNeg .null, vm := .none } : Cell) = H1
  have z1 : H1.size = H.size + 1 := by rw [← hH1, Array.size_push]
  have e1 : H1[H.size]? = some (arrV (cy a) k.toNatClampNeg (fun _ => .null)) := by rw [← hH1, Array.getElem?_push_size, ← arrV_new]
  have o1 : ∀ x : Nat, x < H.size → H1[x]? = H[x]? := fun x hx => by rw [← hH1, Array.getElem?_push, if_neg (Nat.ne_of_lt hx)]
  rw [hsz]
  refine kk H1 ?_ (hS.grow z1 o1)
  rw [← List.append_assoc]
  exact hP.push z1 o1 (by rw [hlen, ← hsz]; exact e1)
theorem e_get {C : String} {T : u_T} {N ci index : Nat} {ref : String} {fs : List Value} (X : Cx p s m args meth c cc own nL rt G cy) (hP : PT G B (cs0 ++ t) H) (hq : cs0.length = q) (j : Nat) (hj : t[j]? = some (.inr (ci, fs))) (hin : ∀ w ∈ u_ws C T N, w ∈ wsA) (hc : vwCl[ci]? = some (C, T, N)) (k : Nat) (hk : k < N) (hl : Cond.fieldLink own index ref (T k).2.1 (T k).2.2.1 ∈ wsA) (hf : ref = (T k).1) {v : Value} (hv : fs[k]? = some v) (hdg : decode cc pc = .ok (.getfield index, 3))
    (kk : W p l e R s m args below meth c H locs cells slots Q (F0 m (pc + 3) ls (v :: rest))) : W p l e R s m args below meth c H locs cells slots Q (F0 m pc ls (.ref (B + (q + j)) :: rest)) :=
  va_get (ws := [(B + (q + j), .inr (ci, fs))]) X.1 X.2.1 X.2.2.2.2.2.1 hin X.2.2.2.2.1 X.2.2.2.2.2.2.1.1 (fun k x hx => by
    have hz : k < 1 := (List.getElem?_eq_some_iff.mp hx).1
    rw [show k = 0 by omega] at hx
    cases hx
    exact hP.2 (q + j) _ (by rw [ap_get hq]; exact hj)) 0 rfl hc k hk (X.2.2.2.2.2.1 _ hl) (fun x h => by rw [hf]; exact h) hv hdg kk
theorem e_put {C : String} {T : u_T} {N ci index : Nat} {ref : String} {ty : FieldType} {v : Value} {fs : List Value} {t' : List va_E} (X : Cx p s m args meth c cc own nL rt G cy) (hP : PT G B (cs0 ++ t) H) (hq : cs0.length = q) (hS : va_S (FB B) s.heap H locs) (j : Nat) (hj : t[j]? = some (.inr (ci, fs))) (hin : ∀ w ∈ u_ws C T N, w ∈ wsA) (hc : vwCl[ci]? = some (C, T, N)) (ty0 : Nat → FieldType) (hty : ∀ k, k < N → parseFieldDescriptor (T k).2.2.1 = some (ty0 k)) (hnm : ∀ a, a < N → ∀ b, b < N → a ≠ b → (T a).2.1 ≠ (T b).2.1) (k : Nat) (hk : k < N) (hl : Cond.fieldLink own index ref (T k).2.1 (T k).2.2.1 ∈ wsA) (hf : ref = (T k).1) (hfin : (T k).2.2.2 = false ∨ ((T k).2.2.2 = true ∧ meth.name = "<init>" ∧ (T k).1 = own)) (hd : parseFieldDescriptor (T k).2.2.1 = some ty) (hn : narrow ty v = v) (hfit : fits ty v = true) (hln : k < fs.length) (ht : t.set j (.inr (ci, fs.set k v)) = t') (hdg : decode cc pc = .ok (.putfield index, 3))
    (kk : ∀ (H1 : Heap) (locs1 : List Loc), PT G B (cs0 ++ t') H1 → va_S (FB B) s.heap H1 locs1 → W p l e R s m args below meth c H1 locs1 cells slots Q (F0 m (pc + 3) ls rest)) : W p l e R s m args below meth c H locs cells slots Q (F0 m pc ls (v :: .ref (B + (q + j)) :: rest)) := by
  subst ht
  have hK := X.2.2.2.2.2.2.1.1
  have hts := X.2.2.2.2.2.1
  have hap := va_apart (own := own) hts hin ty0 hty hnm hK hc
  obtain ⟨r, h1, cell, q1, q2, q3, q4⟩ := hP.2 (q + j) _ (by rw [ap_get hq]; exact hj)
  have hr : r = (C, T, N) := Option.some.inj (h1.symm.trans hc)
  subst hr
  obtain ⟨hS1, hfc, kC, hkC, hkind⟩ := hK.1 ci _ hc
  obtain ⟨cf, kf, fi, f, hi, hsl⟩ := hS1 k hk
  have hlay0 := hts _ (hin _ (u_in_lay hk))
  have hst := (u_facts hfc hkC (u_lays hts hin hk) hi).1
  subst hf
  have fin : ∀ H' : Heap, H'[B + (q + j)]? = some (cell.setSlot f.slot v) → H'.size = H.size → (∀ x, x ≠ B + (q + j) → H'[x]? = H[x]?) → PT G B (cs0 ++ t.set j (.inr (ci, fs.set k v))) H' := by
    intro H' e1 e2 e3
    rw [← ap_set hq]
    rw [hsl] at e1
    exact hP.upd e2 e3 ⟨_, hc, t_OB.to (V := updV (vp_V fs) k v) ⟨_, e1, q2, q3, t_set q4 hap hk v⟩ (fun j _ => vp_updV_set hln v j)⟩
  rcases hfin with hfin | ⟨hfin, hin2, hdecl⟩
  · have hlay := hlay0
    unfold u_lay at hlay
    rw [if_neg (by rw [hfin]; decide)] at hlay
    have h6 := u_store hfc hkC hkind hlay hi hd hn hfit
    refine W.putK X.1 X.2.1 (f := f) ⟨X.2.2.2.2.1, hts _ hl, ⟨_, _, _, hi⟩, hst⟩ (by rw [q2]; exact h6) q1 q3 (by rw [hsl]; exact k2_hasslot (q4 k hk)) rfl rfl hdg fun H' e1 e2 e3 => ?_
    exact kk H' _ (fin H' e1 e2 e3) (hS.put e2 e3 (Nat.le_add_right _ _))
  · have hlay := hlay0
    unfold u_lay at hlay
    rw [if_pos hfin] at hlay
    have hcf : m.cls = cf := by
      obtain ⟨_, _, c', _, _, _, -, -, hf', -, -, -, hown2, -⟩ := Cond.laysFinal_spec hlay
      have e1 : c' = cf := by have := hi.symm.trans hf'; simp at this; exact this.1.symm
      rw [hdecl] at hown2
      rw [← e1]; exact Option.some.inj (X.2.2.2.2.1.symm.trans hown2)
    have h6 := u_fits hfc hkC hkind (Or.inr hlay) hi hd hn hfit
    refine W.putFinK X.1 X.2.1 X.2.2.2.2.1 (hts _ hl) hi hst hcf hin2 (by rw [q2]; exact h6) q1 q3 (by rw [hsl]; exact k2_hasslot (q4 k hk)) rfl rfl hdg fun H' e1 e2 e3 => ?_
    exact kk H' _ (fin H' e1 e2 e3) (hS.put e2 e3 (Nat.le_add_right _ _))
theorem e_iast {x : Int32} {f : Nat → Int32} {t' : List va_E} (X : Cx p s m args meth c cc own nL rt G cy) (hP : PT G B (cs0 ++ t) H) (hq : cs0.length = q) (hS : va_S (FB B) s.heap H locs) (j : Nat) (hj : t[j]? = some (.inl (cy 0, n, .inl f))) (hi : inR i n = true) (ht : t.set j (.inl (cy 0, n, .inl (upd f i.toNatClampNeg x))) = t') (hdg : decode cc pc = .ok (.iastore, 1))
    (kk : ∀ (H1 : Heap) (locs1 : List Loc), PT G B (cs0 ++ t') H1 → va_S (FB B) s.heap H1 locs1 → W p l e R s m args below meth c H1 locs1 cells slots Q (F0 m (pc + 1) ls rest)) : W p l e R s m args below meth c H locs cells slots Q (F0 m pc ls (.int x :: .int i :: .ref (B + (q + j)) :: rest)) := by
  subst ht
  have ha : va_at G vwCl (B + (q + j), .inl (cy 0, n, .inl f)) H := hP.2 (q + j) _ (by rw [ap_get hq]; exact hj)
  refine W.iast X.1 X.2.1 ha ((X.2.2.2.2.2.2.1.1.2 0 _ rfl).1 n (fun j => .int (f j))) (fun q => by cases q) (by show ¬ (i < 0 ∨ (arrV _ _ _).slots.size ≤ _); rw [arrV_size]; exact inR_vp hi) rfl rfl hdg fun H1 e1 z oq => ?_
  refine kk H1 _ ?_ (hS.put z oq (Nat.le_add_right _ _))
  rw [← ap_set hq]
  refine hP.upd z oq ?_
  show H1[B + (q + j)]? = some (arrV (cy 0) n (fun k => .int (upd f i.toNatClampNeg x k)))
  rw [e1]
  show some ((arrV (cy 0) n (fun k => .int (f k))).setSlot _ _) = _
  rw [arrV_store]
  congr 2
  funext k
  by_cases hk : k = i.toNatClampNeg <;> simp [updV, upd, hk]
theorem e_aast {a ci jv : Nat} {r : vw_C} {vs : List Value} {f : Nat → Option Nat} {t' : List va_E} (X : Cx p s m args meth c cc own nL rt G cy) (hP : PT G B (cs0 ++ t) H) (hq : cs0.length = q) (hS : va_S (FB B) s.heap H locs) (j : Nat) (hj : t[j]? = some (.inl (cy a, n, .inr (.inr (.inr (.inr f)))))) (hty : (tysOf cy)[a]? = some (cy a, .object r.1)) (hv : t[jv]? = some (.inr (ci, vs))) (hc : vwCl[ci]? = some r) (hi : inR i n = true) (ht : t.set j (.inl (cy a, n, .inr (.inr (.inr (.inr (va_up f i.toNatClampNeg (some (B + (q + jv))))))))) = t') (hdg : decode cc pc = .ok (.aastore, 1))
    (kk : ∀ (H1 : Heap) (locs1 : List Loc), PT G B (cs0 ++ t') H1 → va_S (FB B) s.heap H1 locs1 → W p l e R s m args below meth c H1 locs1 cells slots Q (F0 m (pc + 1) ls rest)) : W p l e R s m args below meth c H locs cells slots Q (F0 m pc ls (.ref (B + (q + jv)) :: .int i :: .ref (B + (q + j)) :: rest)) := by
  subst ht
  have ha : va_at G vwCl (B + (q + j), .inl (cy a, n, .inr (.inr (.inr (.inr f))))) H := hP.2 (q + j) _ (by rw [ap_get hq]; exact hj)
  have hlt := inR_lt hi
  have h0 : ¬ i < 0 := fun z => inR_vp hi (Or.inl z)
  obtain ⟨r', hr', cellV, g1, g2, g3, -⟩ := hP.2 (q + jv) _ (by rw [ap_get hq]; exact hv)
  have hK := X.2.2.2.2.2.2.1.1
  have hcls := (hK.1 ci r hc).2
  obtain ⟨kA, comp, k1, k2, k3, -⟩ := (hK.2 a _ hty).2
  have hcomp : comp = G.1 ci := Option.some.inj (k3.symm.trans hcls.1)
  subst hcomp
  obtain ⟨kC, hkC, -⟩ := hcls.2
  refine W.aast X.1 X.2.1 ha (fun q h => by cases h) (fun h => by cases h) k1 k2 rfl hkC ⟨h0, by show _ < (arrV _ _ _).slots.size; rw [arrV_size]; exact hlt⟩ g1 (fun q h => by rw [g3] at h; cases h) (by rw [g2]; exact hkC) (by rw [g2]; exact va_assign hcls) rfl rfl hdg fun H1 e1 z oq => ?_
  refine kk H1 _ ?_ (hS.put z oq (Nat.le_add_right _ _))
  rw [← ap_set hq]
  refine hP.upd z oq ?_
  show H1[B + (q + j)]? = some (arrV (cy a) n (fun k => va_rf (va_up f i.toNatClampNeg (some (B + (q + jv))) k)))
  rw [e1]
  show some ((arrV (cy a) n (fun k => va_rf (f k))).setSlot _ _) = _
  rw [arrV_store]
  congr 2
  funext k
  by_cases hk : k = i.toNatClampNeg
  · subst hk
    simp [updV, va_up, va_rf]
  · simp [updV, va_up, hk]
theorem e_ini {idx n maxL mc ms : Nat} {y : MethodName} {bytes : ByteArray} {rm : Room} {cs cs' : List va_E} {a : Nat} {As : List Value} (X : Cx p s m args meth c cc own nL rt G cy) (hO : AO3 s) (hP : PT G B cs H) (hS : va_S (FB B) s.heap H locs) (hM : Met l y (wsU y bytes maxL none) rm (va_Pc (.ref a :: As) (PUT G B cy cs)) (QvT G B cs') mc ms (FB B))
    (k1 : Cond.methodLink own idx y ∈ wsA) (k2 : Cond.instanceMethod y ∈ wsA) (k4 : Cond.initialized y.cls ∈ wsA) (k5 : Cond.code y bytes maxL none ∈ wsA) (hy1 : y.name = "<init>") (hd : y.cls ≠ "java/lang/invoke/MethodHandle" ∧ y.cls ≠ "java/lang/invoke/VarHandle" ∧ (parseMethodDescriptor y.desc).map (fun d => d.parameters.length) = some n) (hR : (rm.cells = mc ∧ rm.slots = ms) ∧ rm.frames + 1 ≤ R.frames ∧ 8 + (maxL + 11) + rm.locals ≤ R.locals)
    (hn : As.length = n) (hsz : ls.size = nL) (hst : st0 = As.reverse ++ .ref a :: rest) (hw : (rest.map fun v => v.category).sum ≤ 8) (hdg : decode cc pc = .ok (.invokespecial idx, 3)) (hf : cells + mc ≤ R.cells ∧ slots + ms ≤ R.slots)
    (kk : ∀ (H1 : Heap) (locs1 : List Loc), PT G B cs' H1 → va_S (FB B) s.heap H1 locs1 → W p l e R s m args below meth c H1 locs1 (cells + mc) (slots + ms) Q (F0 m (pc + 3) ls rest)) : W p l e R s m args below meth c H locs cells slots Q (F0 m pc ls st0) := by
  have hts := X.2.2.2.2.2.1
  refine va_callv (va_runI ⟨X.1, X.2.1, X.2.2.2.1, X.2.2.2.2.1, hts⟩ hM (cwI n hts (goodU k5) rfl hR.1.1 hR.1.2 (hts _ k4) (hts _ k1) (hts _ k2) hy1 hd hR.2) ⟨PUT.blind, fun U hU hW => ⟨rfl, by rw [hU]; exact hP, X.2.2.2.2.2.2.1.warm hW, hO.moved hW.alike⟩⟩ rfl hn hsz hst (lv_room hw) hdg hf) hS (fun _ _ h => h) (fun _ h => h) (fun u t H1 locs1 ht _ _ hB _ _ hS1 => ?_)
  subst ht
  exact kk _ _ hB hS1
theorem e_iniN {host : String} {idx n maxL mc ms : Nat} {y : MethodName} {bytes : ByteArray} {rm : Room} {cs cs' : List va_E} {a : Nat} {As : List Value} (X : Cx p s m args meth c cc own nL rt G cy) (hO : AO3 s) (hP : PT G B cs H) (hS : va_S (FB B) s.heap H locs) (hM : Met l y (wsU y bytes maxL none) rm (va_Pc (.ref a :: As) (PUT G B cy cs)) (QvT G B cs') mc ms (FB B))
    (k1 : (own, idx, y, host) ∈ nestT) (k2 : Cond.instanceMethod y ∈ wsA) (k4 : Cond.initialized y.cls ∈ wsA) (k5 : Cond.code y bytes maxL none ∈ wsA) (hy1 : y.name = "<init>") (hd : y.cls ≠ "java/lang/invoke/MethodHandle" ∧ y.cls ≠ "java/lang/invoke/VarHandle" ∧ (parseMethodDescriptor y.desc).map (fun d => d.parameters.length) = some n) (hR : (rm.cells = mc ∧ rm.slots = ms) ∧ rm.frames + 1 ≤ R.frames ∧ 8 + (maxL + 11) + rm.locals ≤ R.locals)
    (hn : As.length = n) (hsz : ls.size = nL) (hst : st0 = As.reverse ++ .ref a :: rest) (hw : (rest.map fun v => v.category).sum ≤ 8) (hdg : decode cc pc = .ok (.invokespecial idx, 3)) (hf : cells + mc ≤ R.cells ∧ slots + ms ≤ R.slots)
    (kk : ∀ (H1 : Heap) (locs1 : List Loc), PT G B cs' H1 → va_S (FB B) s.heap H1 locs1 → W p l e R s m args below meth c H1 locs1 (cells + mc) (slots + ms) Q (F0 m (pc + 3) ls rest)) : W p l e R s m args below meth c H locs cells slots Q (F0 m pc ls st0) := by
  have hts := X.2.2.2.2.2.1
  refine va_callv (va_runIN ⟨X.1, X.2.1, X.2.2.2.1, X.2.2.2.2.1, hts⟩ hM ⟨va_cnB n hts (goodU k5) rfl hR.1.1 hR.1.2 (X.2.2.2.2.2.2.1.2 _ k1) (hts _ k4) hd hR.2, hy1, hts _ k2⟩ ⟨PUT.blind, fun U hU hW => ⟨rfl, by rw [hU]; exact hP, X.2.2.2.2.2.2.1.warm hW, hO.moved hW.alike⟩⟩ rfl hn hsz hst (lv_room hw) hdg hf) hS (fun _ _ h => h) (fun _ h => h) (fun u t H1 locs1 ht _ _ hB _ _ hS1 => ?_)
  subst ht
  exact kk _ _ hB hS1
theorem e_vret {cs : List va_E} (X : Cx p s m args meth c cc own nL none G cy) (hP : PT G B cs H) (hS : va_S (FB B) s.heap H locs) (hdg : decode cc pc = .ok (.return_, 1)) : W p l e R s m args below meth c H locs cells slots (MQ below (QvT G B cs) args s cells slots (FB B)) (F0 m pc ls []) :=
  W.vret X.1 X.2.1 X.2.2.1 (fun t ht _ => ⟨⟨(), rfl, trivial, by show PT G B cs t.heap; rw [ht]; exact hP⟩, hS.F ht⟩) hS.2.2 hdg X.2.2.2.2.2.2.2
theorem e_met {y : MethodName} {maxL mc ms : Nat} {rm : Room} {av : List Value} {cs : List va_E} {Qc : Array Value → State → Outcome → State → Prop} (hy : plainName y.cls = true) (own : String) (ho : y.cls = own) (hyn : y.name = "<init>") (hl : (lg_sl av).length ≤ maxL)
    (body : ∀ (p : Program) (e : Env) (s : State) (m : MethodId) (args : Array Value) (below : List Frame) (meth : Method) (c : Code) (ls : Array Slot), Cx p s m args meth c cc own maxL none G cy → AO3 s → meth.name = "<init>" → PT G B cs s.heap → lv_has ls maxL (lv_args 0 av) →
      W p l e rm s m args below meth c s.heap [] 0 0 (MQ below Qc args s mc ms (FB B)) (F0 m 0 ls [])) : Met l y (wsU y cc maxL none) rm (va_Pc av (PUT G B cy cs)) Qc mc ms (FB B) := by
  refine Met.ofW (cc := cc) (maxL := maxL) (ret := none) hy rfl ?_
  intro p e s m args below meth c s₁ Bd hml hv
  obtain ⟨rfl, hP, hK, hO⟩ := hv
  have hts := atoms_spec (ws := wsU y cc maxL none) Bd.pre
  have hown : s.vm.findClass own = some m.cls := ho ▸ findClass_of_methodNamed Bd.named
  have hlv := lv_entry av (n := maxL) hl
  rw [lg_entry_eq]
  exact body p e s m _ below meth c _ ⟨Bd.exec, Bd.bytes, Bd.returns, hml, hown, fun w h => hts w (List.mem_cons_of_mem _ h), hK, Bd.notSynchronized⟩ hO (hyn ▸ (name_of_methodNamed Bd.named Bd.method).1) hP hlv
end MAKE
/-- a row of ints whose first k places were set to -1 -/
def cF (k : Nat) : Nat → Int32 := fun j => if j < k then -1 else 0
theorem cF_s {k : Nat} (h : k < 2 ^ 31) : upd (cF k) (nI k).toNatClampNeg (-1) = cF (k + 1) := by
  funext j
  rw [nI_clamp h]
  unfold upd cF
  by_cases h1 : j = k
  · rw [if_pos h1, if_pos (by omega)]
  · rw [if_neg h1]
    by_cases h2 : j < k
    · rw [if_pos h2, if_pos (by omega)]
    · rw [if_neg h2, if_neg (by omega)]
theorem cF_0 : (fun _ => 0) = cF 0 := by
  funext j
  unfold cF
  rw [if_neg (by omega)]
theorem inR_nI {k n : Nat} (h : k < n) (hn : n < 2 ^ 31) : inR (nI k) n = true := by
  unfold inR
  rw [nI_clamp (by omega)]
  have h1 : ¬ nI k < 0 := nI_pos (by omega)
  simp [h1, h]

theorem sx_1 (a : Nat) : nI (a + 1) = nI a + 1 := by rw [← nI_add]; rfl
theorem sx_2 (a : Nat) : nI (a + 2) = nI a + 2 := by rw [← nI_add]; rfl
theorem sx_3 (a : Nat) : nI (a + 3) = nI a + 3 := by rw [← nI_add]; rfl
theorem sx_4 (a : Nat) : nI (a + 4) = nI a + 4 := by rw [← nI_add]; rfl
theorem sx_5 (a : Nat) : nI (a + 5) = nI a + 5 := by rw [← nI_add]; rfl
/-- call 0: number -/
def S_number (Rl : Nat → Mem → Prop) : Prop := ∀ (nT : Nat) (M : Mem) (a0 : Int32) (a1 : Int64), Rl nT M → ∃ (r : Int32) (M1 M2 : Mem), f_X8_number nT M a0 a1 = some (r, M1) ∧ f_X9_number M1 a0 a1 = some (r, M2) ∧ Rl nT M2
/-- call 1: lot -/
def S_lot (Rl : Nat → Mem → Prop) : Prop := ∀ (nT : Nat) (M : Mem) (a0 : Int32) (a1 : Int32) (a2 : Int32) (a3 : Int32), Rl nT M → ∃ (r : Int32) (M1 M2 : Mem), f_X8_lot nT M a0 a1 a2 a3 = some (r, M1) ∧ f_X9_lot M1 a0 a1 a2 a3 = some (r, M2) ∧ Rl nT M2
/-- call 2: empty -/
def S_empty (Rl : Nat → Mem → Prop) : Prop := ∀ (nT : Nat) (M : Mem) (a0 : Int32), Rl nT M → ∃ (r : Int32) (M1 M2 : Mem), f_X8_empty nT M a0 = some (r, M1) ∧ f_X9_empty M1 a0 = some (r, M2) ∧ Rl nT M2
/-- call 3: holds -/
def S_holds (Rl : Nat → Mem → Prop) : Prop := ∀ (nT : Nat) (M : Mem) (a0 : Int32), Rl nT M → ∃ r : Int32, f_X8_holds M a0 = some r ∧ f_X9_holds M a0 = some r
/-- call 4: value -/
def S_value (Rl : Nat → Mem → Prop) : Prop := ∀ (nT : Nat) (M : Mem) (a0 : Int32), Rl nT M → ∃ r : Int64, f_X8_value M a0 = some r ∧ f_X9_value M a0 = some r
/-- call 5: cell -/
def S_cell (Rl : Nat → Mem → Prop) : Prop := ∀ (nT : Nat) (M : Mem) (a0 : Int32) (a1 : Int32), Rl nT M → ∃ r : Int32, f_X8_cell M a0 a1 = some r ∧ f_X9_cell M a0 a1 = some r
/-- call 6: history -/
def S_history (Rl : Nat → Mem → Prop) : Prop := ∀ (nT : Nat) (M : Mem) (a0 : Int32) (a1 : Int32), Rl nT M → ∃ r : Int32, f_X8_history M a0 a1 = some r ∧ f_X9_history M a0 a1 = some r
/-- call 7: stock -/
def S_stock (Rl : Nat → Mem → Prop) : Prop := ∀ (nT : Nat) (M : Mem) (a0 : Int32) (a1 : Int32), Rl nT M → ∃ r : Int64, f_X8_stock M a0 a1 = some r ∧ f_X9_stock M a0 a1 = some r
/-- call 8: step -/
def S_step (Rl : Nat → Mem → Prop) : Prop := ∀ (nT : Nat) (M : Mem) (a0 : Int32) (a1 : Int32) (a2 : Int32) (a3 : Int32), Rl nT M → ∃ (r : Int32) (M1 M2 : Mem), f_X8_step M a0 a1 a2 a3 = some (r, M1) ∧ f_X9_step M1 a0 a1 a2 a3 = some (r, M2) ∧ Rl nT M2
/-- call 9: drop -/
def S_drop (Rl : Nat → Mem → Prop) : Prop := ∀ (nT : Nat) (M : Mem) (a0 : Int32), Rl nT M → ∃ (r : Int32) (M1 M2 : Mem), f_X8_drop M a0 = some (r, M1) ∧ f_X9_drop M1 a0 = some (r, M2) ∧ Rl nT M2
/-- call 10: clash -/
def S_clash (Rl : Nat → Mem → Prop) : Prop := ∀ (nT : Nat) (M : Mem) (a0 : Int32) (a1 : Int32), Rl nT M → ∃ (r : Int32) (M1 M2 : Mem), f_X8_clash M a0 a1 = some (r, M1) ∧ f_X9_clash M1 a0 a1 = some (r, M2) ∧ Rl nT M2
/-- call 11: rule -/
def S_rule (Rl : Nat → Mem → Prop) : Prop := ∀ (nT : Nat) (M : Mem) (a0 : Int32) (a1 : Int32) (a2 : Int32) (a3 : Int64), Rl nT M → ∃ (r : Int32) (M1 M2 : Mem), f_X8_rule M a0 a1 a2 a3 = some (r, M1) ∧ f_X9_rule M1 a0 a1 a2 a3 = some (r, M2) ∧ Rl nT M2
/-- call 12: submit -/
def S_submit (Rl : Nat → Mem → Prop) : Prop := ∀ (nT : Nat) (M : Mem) (a0 : Int32), Rl nT M → ∃ (r : Int32) (M1 M2 : Mem) (n1 : Nat), f_X8_submit nT M a0 = some (r, M1, n1) ∧ f_X9_submit M1 a0 = some (r, M2) ∧ Rl n1 M2
/-- call 13: window -/
def S_window (Rl : Nat → Mem → Prop) : Prop := ∀ (nT : Nat) (M : Mem) (a0 : Int32), Rl nT M → ∃ (r : Int32) (M1 M2 : Mem), f_X8_window M a0 = some (r, M1) ∧ f_X9_window M1 a0 = some (r, M2) ∧ Rl nT M2
/-- call 14: run -/
def S_run (Rl : Nat → Mem → Prop) : Prop := ∀ (nT : Nat) (M : Mem) (a0 : Int32), Rl nT M → ∃ (r : Int32) (M1 M2 : Mem), f_X8_run nT M a0 = some (r, M1) ∧ f_X9_run M1 a0 = some (r, M2) ∧ Rl nT M2
/-- call 15: ticket -/
def S_ticket (Rl : Nat → Mem → Prop) : Prop := ∀ (nT : Nat) (M : Mem) (a0 : Int32) (a1 : Int32), Rl nT M → ∃ r : Int32, f_X8_ticket nT M a0 a1 = some r ∧ f_X9_ticket M a0 a1 = some r
/-- call 16: answer -/
def S_answer (Rl : Nat → Mem → Prop) : Prop := ∀ (nT : Nat) (M : Mem) (a0 : Int32) (a1 : Int32), Rl nT M → ∃ r : Int64, f_X8_answer nT M a0 a1 = some r ∧ f_X9_answer M a0 a1 = some r
/-- call 17: tried -/
def S_tried (Rl : Nat → Mem → Prop) : Prop := ∀ (nT : Nat) (M : Mem) (a0 : Int32) (a1 : Int32), Rl nT M → ∃ r : Int32, f_X8_tried nT M a0 a1 = some r ∧ f_X9_tried M a0 a1 = some r
/-- call 18: way -/
def S_way (Rl : Nat → Mem → Prop) : Prop := ∀ (nT : Nat) (M : Mem) (a0 : Int32) (a1 : Int32) (a2 : Int32), Rl nT M → ∃ r : Int32, f_X8_way nT M a0 a1 a2 = some r ∧ f_X9_way M a0 a1 a2 = some r
/-- call 19: read -/
def S_read (Rl : Nat → Mem → Prop) : Prop := ∀ (nT : Nat) (M : Mem) (a0 : Int32) (a1 : Int32), Rl nT M → ∃ r : Int32, f_X8_read nT M a0 a1 = some r ∧ f_X9_read M a0 a1 = some r
/-- call 20: woken -/
def S_woken (Rl : Nat → Mem → Prop) : Prop := ∀ (nT : Nat) (M : Mem) (a0 : Int32) (a1 : Int32), Rl nT M → ∃ r : Int32, f_X8_woken nT M a0 a1 = some r ∧ f_X9_woken M a0 a1 = some r
/-- call 21: order -/
def S_order (Rl : Nat → Mem → Prop) : Prop := ∀ (nT : Nat) (M : Mem) (a0 : Int32), Rl nT M → ∃ r : Int32, f_X8_order M a0 = some r ∧ f_X9_order M a0 = some r
/-- call 22: note -/
def S_note (Rl : Nat → Mem → Prop) : Prop := ∀ (nT : Nat) (M : Mem) (a0 : Int32) (a1 : Int32), Rl nT M → ∃ r : Int32, f_X8_note M a0 a1 = some r ∧ f_X9_note M a0 a1 = some r
/-- call 23: noted -/
def S_noted (Rl : Nat → Mem → Prop) : Prop := ∀ (nT : Nat) (M : Mem) (a0 : Int32), Rl nT M → ∃ r : Int64, f_X8_noted M a0 = some r ∧ f_X9_noted M a0 = some r
/-- call 24: count -/
def S_count (Rl : Nat → Mem → Prop) : Prop := ∀ (nT : Nat) (M : Mem) (a0 : Int32), Rl nT M → ∃ r : Int32, f_X8_count nT M a0 = some r ∧ f_X9_count M a0 = some r
/-- call 25: digest -/
def S_digest (Rl : Nat → Mem → Prop) : Prop := ∀ (nT : Nat) (M : Mem), Rl nT M → ∃ r : Int64, f_X8_digest nT M = some r ∧ f_X9_digest M = some r
def Calls (Rl : Nat → Mem → Prop) : Prop := S_number Rl ∧ S_lot Rl ∧ S_empty Rl ∧ S_holds Rl ∧ S_value Rl ∧ S_cell Rl ∧ S_history Rl ∧ S_stock Rl ∧ S_step Rl ∧ S_drop Rl ∧ S_clash Rl ∧ S_rule Rl ∧ S_submit Rl ∧ S_window Rl ∧ S_run Rl ∧ S_ticket Rl ∧ S_answer Rl ∧ S_tried Rl ∧ S_way Rl ∧ S_read Rl ∧ S_woken Rl ∧ S_order Rl ∧ S_note Rl ∧ S_noted Rl ∧ S_count Rl ∧ S_digest Rl
theorem hd_X8_clash : yX8_clash.cls ≠ "java/lang/invoke/MethodHandle" ∧ yX8_clash.cls ≠ "java/lang/invoke/VarHandle" ∧ (parseMethodDescriptor yX8_clash.desc).map (fun d => d.parameters.length) = some 2 := by decide +kernel
theorem hd_X8_count : yX8_count.cls ≠ "java/lang/invoke/MethodHandle" ∧ yX8_count.cls ≠ "java/lang/invoke/VarHandle" ∧ (parseMethodDescriptor yX8_count.desc).map (fun d => d.parameters.length) = some 1 := by decide +kernel
theorem hd_X8_digest : yX8_digest.cls ≠ "java/lang/invoke/MethodHandle" ∧ yX8_digest.cls ≠ "java/lang/invoke/VarHandle" ∧ (parseMethodDescriptor yX8_digest.desc).map (fun d => d.parameters.length) = some 0 := by decide +kernel
theorem hd_X8_drop : yX8_drop.cls ≠ "java/lang/invoke/MethodHandle" ∧ yX8_drop.cls ≠ "java/lang/invoke/VarHandle" ∧ (parseMethodDescriptor yX8_drop.desc).map (fun d => d.parameters.length) = some 1 := by decide +kernel
theorem hd_X8_empty : yX8_empty.cls ≠ "java/lang/invoke/MethodHandle" ∧ yX8_empty.cls ≠ "java/lang/invoke/VarHandle" ∧ (parseMethodDescriptor yX8_empty.desc).map (fun d => d.parameters.length) = some 1 := by decide +kernel
theorem hd_X8_history : yX8_history.cls ≠ "java/lang/invoke/MethodHandle" ∧ yX8_history.cls ≠ "java/lang/invoke/VarHandle" ∧ (parseMethodDescriptor yX8_history.desc).map (fun d => d.parameters.length) = some 2 := by decide +kernel
theorem hd_X8_lot : yX8_lot.cls ≠ "java/lang/invoke/MethodHandle" ∧ yX8_lot.cls ≠ "java/lang/invoke/VarHandle" ∧ (parseMethodDescriptor yX8_lot.desc).map (fun d => d.parameters.length) = some 4 := by decide +kernel
theorem hd_X8_note : yX8_note.cls ≠ "java/lang/invoke/MethodHandle" ∧ yX8_note.cls ≠ "java/lang/invoke/VarHandle" ∧ (parseMethodDescriptor yX8_note.desc).map (fun d => d.parameters.length) = some 2 := by decide +kernel
theorem hd_X8_noted : yX8_noted.cls ≠ "java/lang/invoke/MethodHandle" ∧ yX8_noted.cls ≠ "java/lang/invoke/VarHandle" ∧ (parseMethodDescriptor yX8_noted.desc).map (fun d => d.parameters.length) = some 1 := by decide +kernel
theorem hd_X8_number : yX8_number.cls ≠ "java/lang/invoke/MethodHandle" ∧ yX8_number.cls ≠ "java/lang/invoke/VarHandle" ∧ (parseMethodDescriptor yX8_number.desc).map (fun d => d.parameters.length) = some 2 := by decide +kernel
theorem hd_X8_read : yX8_read.cls ≠ "java/lang/invoke/MethodHandle" ∧ yX8_read.cls ≠ "java/lang/invoke/VarHandle" ∧ (parseMethodDescriptor yX8_read.desc).map (fun d => d.parameters.length) = some 2 := by decide +kernel
theorem hd_X8_rule : yX8_rule.cls ≠ "java/lang/invoke/MethodHandle" ∧ yX8_rule.cls ≠ "java/lang/invoke/VarHandle" ∧ (parseMethodDescriptor yX8_rule.desc).map (fun d => d.parameters.length) = some 4 := by decide +kernel
theorem hd_X8_run : yX8_run.cls ≠ "java/lang/invoke/MethodHandle" ∧ yX8_run.cls ≠ "java/lang/invoke/VarHandle" ∧ (parseMethodDescriptor yX8_run.desc).map (fun d => d.parameters.length) = some 1 := by decide +kernel
theorem hd_X8_step : yX8_step.cls ≠ "java/lang/invoke/MethodHandle" ∧ yX8_step.cls ≠ "java/lang/invoke/VarHandle" ∧ (parseMethodDescriptor yX8_step.desc).map (fun d => d.parameters.length) = some 4 := by decide +kernel
theorem hd_X8_stock : yX8_stock.cls ≠ "java/lang/invoke/MethodHandle" ∧ yX8_stock.cls ≠ "java/lang/invoke/VarHandle" ∧ (parseMethodDescriptor yX8_stock.desc).map (fun d => d.parameters.length) = some 2 := by decide +kernel
theorem hd_X8_submit : yX8_submit.cls ≠ "java/lang/invoke/MethodHandle" ∧ yX8_submit.cls ≠ "java/lang/invoke/VarHandle" ∧ (parseMethodDescriptor yX8_submit.desc).map (fun d => d.parameters.length) = some 1 := by decide +kernel
theorem hd_X8_tried : yX8_tried.cls ≠ "java/lang/invoke/MethodHandle" ∧ yX8_tried.cls ≠ "java/lang/invoke/VarHandle" ∧ (parseMethodDescriptor yX8_tried.desc).map (fun d => d.parameters.length) = some 2 := by decide +kernel
theorem hd_X8_way : yX8_way.cls ≠ "java/lang/invoke/MethodHandle" ∧ yX8_way.cls ≠ "java/lang/invoke/VarHandle" ∧ (parseMethodDescriptor yX8_way.desc).map (fun d => d.parameters.length) = some 3 := by decide +kernel
theorem hd_X8_window : yX8_window.cls ≠ "java/lang/invoke/MethodHandle" ∧ yX8_window.cls ≠ "java/lang/invoke/VarHandle" ∧ (parseMethodDescriptor yX8_window.desc).map (fun d => d.parameters.length) = some 1 := by decide +kernel
theorem hd_X8_woken : yX8_woken.cls ≠ "java/lang/invoke/MethodHandle" ∧ yX8_woken.cls ≠ "java/lang/invoke/VarHandle" ∧ (parseMethodDescriptor yX8_woken.desc).map (fun d => d.parameters.length) = some 2 := by decide +kernel
theorem hd_X9_clash : yX9_clash.cls ≠ "java/lang/invoke/MethodHandle" ∧ yX9_clash.cls ≠ "java/lang/invoke/VarHandle" ∧ (parseMethodDescriptor yX9_clash.desc).map (fun d => d.parameters.length) = some 2 := by decide +kernel
theorem hd_X9_count : yX9_count.cls ≠ "java/lang/invoke/MethodHandle" ∧ yX9_count.cls ≠ "java/lang/invoke/VarHandle" ∧ (parseMethodDescriptor yX9_count.desc).map (fun d => d.parameters.length) = some 1 := by decide +kernel
theorem hd_X9_digest : yX9_digest.cls ≠ "java/lang/invoke/MethodHandle" ∧ yX9_digest.cls ≠ "java/lang/invoke/VarHandle" ∧ (parseMethodDescriptor yX9_digest.desc).map (fun d => d.parameters.length) = some 0 := by decide +kernel
theorem hd_X9_drop : yX9_drop.cls ≠ "java/lang/invoke/MethodHandle" ∧ yX9_drop.cls ≠ "java/lang/invoke/VarHandle" ∧ (parseMethodDescriptor yX9_drop.desc).map (fun d => d.parameters.length) = some 1 := by decide +kernel
theorem hd_X9_empty : yX9_empty.cls ≠ "java/lang/invoke/MethodHandle" ∧ yX9_empty.cls ≠ "java/lang/invoke/VarHandle" ∧ (parseMethodDescriptor yX9_empty.desc).map (fun d => d.parameters.length) = some 1 := by decide +kernel
theorem hd_X9_history : yX9_history.cls ≠ "java/lang/invoke/MethodHandle" ∧ yX9_history.cls ≠ "java/lang/invoke/VarHandle" ∧ (parseMethodDescriptor yX9_history.desc).map (fun d => d.parameters.length) = some 2 := by decide +kernel
theorem hd_X9_holds : yX9_holds.cls ≠ "java/lang/invoke/MethodHandle" ∧ yX9_holds.cls ≠ "java/lang/invoke/VarHandle" ∧ (parseMethodDescriptor yX9_holds.desc).map (fun d => d.parameters.length) = some 1 := by decide +kernel
theorem hd_X9_lot : yX9_lot.cls ≠ "java/lang/invoke/MethodHandle" ∧ yX9_lot.cls ≠ "java/lang/invoke/VarHandle" ∧ (parseMethodDescriptor yX9_lot.desc).map (fun d => d.parameters.length) = some 4 := by decide +kernel
theorem hd_X9_note : yX9_note.cls ≠ "java/lang/invoke/MethodHandle" ∧ yX9_note.cls ≠ "java/lang/invoke/VarHandle" ∧ (parseMethodDescriptor yX9_note.desc).map (fun d => d.parameters.length) = some 2 := by decide +kernel
theorem hd_X9_noted : yX9_noted.cls ≠ "java/lang/invoke/MethodHandle" ∧ yX9_noted.cls ≠ "java/lang/invoke/VarHandle" ∧ (parseMethodDescriptor yX9_noted.desc).map (fun d => d.parameters.length) = some 1 := by decide +kernel
theorem hd_X9_number : yX9_number.cls ≠ "java/lang/invoke/MethodHandle" ∧ yX9_number.cls ≠ "java/lang/invoke/VarHandle" ∧ (parseMethodDescriptor yX9_number.desc).map (fun d => d.parameters.length) = some 2 := by decide +kernel
theorem hd_X9_order : yX9_order.cls ≠ "java/lang/invoke/MethodHandle" ∧ yX9_order.cls ≠ "java/lang/invoke/VarHandle" ∧ (parseMethodDescriptor yX9_order.desc).map (fun d => d.parameters.length) = some 1 := by decide +kernel
theorem hd_X9_read : yX9_read.cls ≠ "java/lang/invoke/MethodHandle" ∧ yX9_read.cls ≠ "java/lang/invoke/VarHandle" ∧ (parseMethodDescriptor yX9_read.desc).map (fun d => d.parameters.length) = some 2 := by decide +kernel
theorem hd_X9_rule : yX9_rule.cls ≠ "java/lang/invoke/MethodHandle" ∧ yX9_rule.cls ≠ "java/lang/invoke/VarHandle" ∧ (parseMethodDescriptor yX9_rule.desc).map (fun d => d.parameters.length) = some 4 := by decide +kernel
theorem hd_X9_run : yX9_run.cls ≠ "java/lang/invoke/MethodHandle" ∧ yX9_run.cls ≠ "java/lang/invoke/VarHandle" ∧ (parseMethodDescriptor yX9_run.desc).map (fun d => d.parameters.length) = some 1 := by decide +kernel
theorem hd_X9_step : yX9_step.cls ≠ "java/lang/invoke/MethodHandle" ∧ yX9_step.cls ≠ "java/lang/invoke/VarHandle" ∧ (parseMethodDescriptor yX9_step.desc).map (fun d => d.parameters.length) = some 4 := by decide +kernel
theorem hd_X9_stock : yX9_stock.cls ≠ "java/lang/invoke/MethodHandle" ∧ yX9_stock.cls ≠ "java/lang/invoke/VarHandle" ∧ (parseMethodDescriptor yX9_stock.desc).map (fun d => d.parameters.length) = some 2 := by decide +kernel
theorem hd_X9_submit : yX9_submit.cls ≠ "java/lang/invoke/MethodHandle" ∧ yX9_submit.cls ≠ "java/lang/invoke/VarHandle" ∧ (parseMethodDescriptor yX9_submit.desc).map (fun d => d.parameters.length) = some 1 := by decide +kernel
theorem hd_X9_tried : yX9_tried.cls ≠ "java/lang/invoke/MethodHandle" ∧ yX9_tried.cls ≠ "java/lang/invoke/VarHandle" ∧ (parseMethodDescriptor yX9_tried.desc).map (fun d => d.parameters.length) = some 2 := by decide +kernel
theorem hd_X9_way : yX9_way.cls ≠ "java/lang/invoke/MethodHandle" ∧ yX9_way.cls ≠ "java/lang/invoke/VarHandle" ∧ (parseMethodDescriptor yX9_way.desc).map (fun d => d.parameters.length) = some 3 := by decide +kernel
theorem hd_X9_window : yX9_window.cls ≠ "java/lang/invoke/MethodHandle" ∧ yX9_window.cls ≠ "java/lang/invoke/VarHandle" ∧ (parseMethodDescriptor yX9_window.desc).map (fun d => d.parameters.length) = some 1 := by decide +kernel
theorem hd_X9_woken : yX9_woken.cls ≠ "java/lang/invoke/MethodHandle" ∧ yX9_woken.cls ≠ "java/lang/invoke/VarHandle" ∧ (parseMethodDescriptor yX9_woken.desc).map (fun d => d.parameters.length) = some 2 := by decide +kernel
section SUBCALL
variable {p : Program} {l : Launch} {e : Env} {R : Room} {s : State} {m : MethodId} {args : Array Value} {below : List Frame} {meth : Method} {c : Code} {H : Heap} {locs : List Loc} {cells slots : Nat} {Q : State → Prop}
variable {cc : ByteArray} {own : String} {nL : Nat} {rt : Option FieldType} {G : va_G} {cy : Nat → ClassId} {B nT n1 : Nat} {M M1 : Mem} {pc : Nat} {ls : Array Slot} {rest st0 : List Value}
theorem rn_sub {idx n : Nat} {As : List Value} {Qc : Array Value → State → Outcome → State → Prop} (X : Cx p s m args meth c cc own nL rt G cy) (hO : AO3 s) (hP : Pic G B cy nT M H) (hM : Met l yX8_submit (wsU yX8_submit cX8_submit 2 (some .int)) rmX8_submit (va_Pc (.ref (B + 0) :: As) (PUS G B cy nT M)) Qc 4 38 (FB B))
    (k1 : Cond.methodLink own idx yX8_submit ∈ wsA) (k2 : Cond.instanceMethod yX8_submit ∈ wsA) (k3 : Cond.selects RX8 yX8_submit yX8_submit ∈ wsA) (k4 : Cond.initialized RX8 ∈ wsA) (k5 : Cond.code yX8_submit cX8_submit 2 (some .int) ∈ wsA) (hyc : yX8_submit.cls = RX8) (hd : yX8_submit.cls ≠ "java/lang/invoke/MethodHandle" ∧ yX8_submit.cls ≠ "java/lang/invoke/VarHandle" ∧ (parseMethodDescriptor yX8_submit.desc).map (fun d => d.parameters.length) = some n) (hR : rmX8_submit.frames + 1 ≤ R.frames ∧ 8 + (2 + 11) + rmX8_submit.locals ≤ R.locals)
    (hn : As.length = n) (hsz : ls.size = nL) (hst : st0 = As.reverse ++ .ref (B + 0) :: rest) (hw : (rest.map fun v => v.category).sum ≤ 8) (hdg : decode cc pc = .ok (.invokevirtual idx, 3)) (hf : cells + 4 ≤ R.cells ∧ slots + 38 ≤ R.slots) :
    va_Run p l e R s m args below meth c H locs cells slots 4 38 (F0 m pc ls st0) rest (Qc (Value.ref (B + 0) :: As).toArray) (FB B) :=
  va_runV ⟨X.1, X.2.1, X.2.2.2.1, X.2.2.2.2.1, X.2.2.2.2.2.1⟩ hM (cwV n X.2.2.2.2.2.1 (goodV k1 k2 k3 k4 k5) rfl rfl rfl ⟨hyc, hd⟩ hR) ⟨PUS.blind, va_recv X.2.2.2.2.2.2.1.1 hP.2 (ci := 8) rfl (wm_at (kq_0 (nT := nT)).1 (em_f (kq_0 (nT := nT)).2)), fun U hU hW => ⟨rfl, ⟨by rw [hU]; exact hP, X.2.2.2.2.2.2.1.warm hW⟩, hO.moved hW.alike⟩⟩ rfl hn hsz hst (lv_room hw) hdg hf
theorem cl_sub {r : Int32} {a : Array Value} (hr : va_Run p l e R s m args below meth c H locs cells slots 4 38 (F0 m pc ls st0) rest (Qi G B cy n1 r M1 a) (FB B)) (hS : va_S (FB B) s.heap H locs)
    (kk : ∀ (H1 : Heap) (locs1 : List Loc), Pic G B cy n1 M1 H1 → va_S (FB B) s.heap H1 locs1 → W p l e R s m args below meth c H1 locs1 (cells + 4) (slots + 38) Q (F0 m (pc + 3) ls (.int r :: rest))) : W p l e R s m args below meth c H locs cells slots Q (F0 m pc ls st0) :=
  va_calli hr hS (fun _ _ h => h) (fun _ h => h) (fun r' u t H1 locs1 ht _ hp hB _ _ hS1 => by subst hp; subst ht; exact kk _ _ hB hS1)
end SUBCALL
section LAW
variable {p : Program} {l : Launch} {e : Env} {s : State} {m : MethodId} {below : List Frame} {meth : Method} {c : Code} {G : va_G} {cy : Nat → ClassId} {b L B : Nat} {xs : Nat → Int32} {Rl : Nat → Mem → Prop}
def LX (p : Program) (s : State) (m : MethodId) (meth : Method) (c : Code) (G : va_G) (cy : Nat → ClassId) (b L B : Nat) (xs : Nat → Int32) : Prop := Cx p s m #[Value.ref b] meth c cL_law RL 4 ret G cy ∧ AO3 s ∧ va_X b L xs s s.heap ∧ b < s.heap.size ∧ s.heap.size = B ∧ L ≤ 3072
set_option maxRecDepth 100000 in
set_option maxHeartbeats 4000000 in
theorem lw_c0 (Y : LX p s m meth c G cy b L B xs) (HC : S_number Rl) {nT k : Nat} {M : Mem} {H : Heap} {locs : List Loc} {ls : Array Slot} (hk : 6 * k + 6 ≤ L) (hR : Rl nT M) (hP : Pic G B cy nT M H) (hS : va_S (FB B) s.heap H locs) (hl : lv_has ls 4 [(0, .ref b), (1, .ref (B + 0)), (2, .ref (B + 119)), (3, .int (nI (6 * k)))]) (next : ∀ (nT : Nat) (M : Mem) (H : Heap) (locs : List Loc), Rl nT M → Pic G B cy nT M H → va_S (FB B) s.heap H locs → W p l e room_1 s m #[Value.ref b] below meth c H locs (189 + 4 * (k + 1)) (11355 + 38 * (k + 1)) (lw_Z below #[Value.ref b] s) (F0 m 1025 ls [])) : W p l e room_1 s m #[Value.ref b] below meth c H locs (189 + 4 * k) (11355 + 38 * k) (lw_Z below #[Value.ref b] s) (F0 m 152 ls []) := by
  obtain ⟨X, hO, hX, hbl, hB, hL⟩ := Y
  have hbA : ¬ FB B b := by unfold FB; omega
  obtain ⟨hx, hb, hr, hml, hown, hts, hKn, hlk⟩ := id X
  obtain ⟨r, M1, M2, h8, h9, hR⟩ := HC nT M (xs (nI (6 * k + 1)).toNatClampNeg) (((Int32.toInt64 (xs (nI (6 * k + 2)).toNatClampNeg)) <<< (Int32.toInt64 32 &&& 63)) ||| ((Int32.toInt64 (xs (nI (6 * k + 3)).toNatClampNeg)) &&& 4294967295)) hR
  refine lv_aload_n hx hb dL_law_152 rfl (lv_at hl 1 rfl) ?_
  refine lv_aload_n hx hb dL_law_153 rfl (lv_at hl 0 rfl) ?_
  refine lv_iload_n hx hb dL_law_154 rfl (lv_at hl 3 rfl) ?_
  refine lv_iconst (v := 1) hx hb dL_law_155 (by decide) ?_
  refine lv_iadd hx hb dL_law_156 ?_
  refine r_topi (sx_1 (6 * k)) ?_
  refine va_sld hx hb hX hbl hbA hS (vp_in_nI (n := 6 * k + 1) (by omega) (by omega)) dL_law_157 ?_
  refine lv_aload_n hx hb dL_law_158 rfl (lv_at hl 0 rfl) ?_
  refine lv_iload_n hx hb dL_law_159 rfl (lv_at hl 3 rfl) ?_
  refine lv_iconst (v := 2) hx hb dL_law_160 (by decide) ?_
  refine lv_iadd hx hb dL_law_161 ?_
  refine r_topi (sx_2 (6 * k)) ?_
  refine va_sld hx hb hX hbl hbA hS (vp_in_nI (n := 6 * k + 2) (by omega) (by omega)) dL_law_162 ?_
  refine lv_i2l (v := (Int32.toInt64 (xs (nI (6 * k + 2)).toNatClampNeg))) hx hb dL_law_163 rfl ?_
  refine lv_bipush (v := 32) hx hb dL_law_164 (by decide) ?_
  refine lv_lshl (v := ((Int32.toInt64 (xs (nI (6 * k + 2)).toNatClampNeg)) <<< (Int32.toInt64 32 &&& 63))) hx hb dL_law_166 rfl ?_
  refine lv_aload_n hx hb dL_law_167 rfl (lv_at hl 0 rfl) ?_
  refine lv_iload_n hx hb dL_law_168 rfl (lv_at hl 3 rfl) ?_
  refine lv_iconst (v := 3) hx hb dL_law_169 (by decide) ?_
  refine lv_iadd hx hb dL_law_170 ?_
  refine r_topi (sx_3 (6 * k)) ?_
  refine va_sld hx hb hX hbl hbA hS (vp_in_nI (n := 6 * k + 3) (by omega) (by omega)) dL_law_171 ?_
  refine lv_i2l (v := (Int32.toInt64 (xs (nI (6 * k + 3)).toNatClampNeg))) hx hb dL_law_172 rfl ?_
  refine lv_ldc2 (v := 4294967295) hx hb hown (hts _ k_874) dL_law_173 ?_
  refine lv_land hx hb dL_law_176 ?_
  refine lv_lor hx hb dL_law_177 ?_
  refine cl_i (rn_V (C := RX8) (ci := 8) X hP (c_X8_number h8) kq_0 rfl k_182 k_183 k_184 k_1 k_185 rfl hd_X8_number (n := 2) ⟨⟨rfl, rfl⟩, Nat.le_of_ble_eq_true rfl, Nat.le_of_ble_eq_true rfl⟩ (As := [.int (xs (nI (6 * k + 1)).toNatClampNeg), .long (((Int32.toInt64 (xs (nI (6 * k + 2)).toNatClampNeg)) <<< (Int32.toInt64 32 &&& 63)) ||| ((Int32.toInt64 (xs (nI (6 * k + 3)).toNatClampNeg)) &&& 4294967295))]) (rest := []) rfl hl.1 rfl (Nat.le_of_ble_eq_true rfl) dL_law_178 ⟨by simp only [room_1]; omega, by simp only [room_1]; omega⟩) hS (fun H locs hP hS => ?_)
  refine lv_aload_n hx hb dL_law_181 rfl (lv_at hl 2 rfl) ?_
  refine lv_aload_n hx hb dL_law_182 rfl (lv_at hl 0 rfl) ?_
  refine lv_iload_n hx hb dL_law_183 rfl (lv_at hl 3 rfl) ?_
  refine lv_iconst (v := 1) hx hb dL_law_184 (by decide) ?_
  refine lv_iadd hx hb dL_law_185 ?_
  refine r_topi (sx_1 (6 * k)) ?_
  refine va_sld hx hb hX hbl hbA hS (vp_in_nI (n := 6 * k + 1) (by omega) (by omega)) dL_law_186 ?_
  refine lv_aload_n hx hb dL_law_187 rfl (lv_at hl 0 rfl) ?_
  refine lv_iload_n hx hb dL_law_188 rfl (lv_at hl 3 rfl) ?_
  refine lv_iconst (v := 2) hx hb dL_law_189 (by decide) ?_
  refine lv_iadd hx hb dL_law_190 ?_
  refine r_topi (sx_2 (6 * k)) ?_
  refine va_sld hx hb hX hbl hbA hS (vp_in_nI (n := 6 * k + 2) (by omega) (by omega)) dL_law_191 ?_
  refine lv_i2l (v := (Int32.toInt64 (xs (nI (6 * k + 2)).toNatClampNeg))) hx hb dL_law_192 rfl ?_
  refine lv_bipush (v := 32) hx hb dL_law_193 (by decide) ?_
  refine lv_lshl (v := ((Int32.toInt64 (xs (nI (6 * k + 2)).toNatClampNeg)) <<< (Int32.toInt64 32 &&& 63))) hx hb dL_law_195 rfl ?_
  refine lv_aload_n hx hb dL_law_196 rfl (lv_at hl 0 rfl) ?_
  refine lv_iload_n hx hb dL_law_197 rfl (lv_at hl 3 rfl) ?_
  refine lv_iconst (v := 3) hx hb dL_law_198 (by decide) ?_
  refine lv_iadd hx hb dL_law_199 ?_
  refine r_topi (sx_3 (6 * k)) ?_
  refine va_sld hx hb hX hbl hbA hS (vp_in_nI (n := 6 * k + 3) (by omega) (by omega)) dL_law_200 ?_
  refine lv_i2l (v := (Int32.toInt64 (xs (nI (6 * k + 3)).toNatClampNeg))) hx hb dL_law_201 rfl ?_
  refine lv_ldc2 (v := 4294967295) hx hb hown (hts _ k_874) dL_law_202 ?_
  refine lv_land hx hb dL_law_205 ?_
  refine lv_lor hx hb dL_law_206 ?_
  refine cl_i (rn_V (C := RX9) (ci := 9) X hP (c_X9_number h9) kq_119 rfl k_638 k_639 k_640 k_9 k_641 rfl hd_X9_number (n := 2) ⟨⟨rfl, rfl⟩, Nat.le_of_ble_eq_true rfl, Nat.le_of_ble_eq_true rfl⟩ (As := [.int (xs (nI (6 * k + 1)).toNatClampNeg), .long (((Int32.toInt64 (xs (nI (6 * k + 2)).toNatClampNeg)) <<< (Int32.toInt64 32 &&& 63)) ||| ((Int32.toInt64 (xs (nI (6 * k + 3)).toNatClampNeg)) &&& 4294967295))]) (rest := [.int r]) rfl hl.1 rfl (Nat.le_of_ble_eq_true rfl) dL_law_207 ⟨by simp only [room_1]; omega, by simp only [room_1]; omega⟩) hS (fun H locs hP hS => ?_)
  refine lv_icmp_eq (tgt := 1025) hx hb dL_law_210 (by decide) (fun hc => ?_) (fun hc => absurd rfl hc)
  refine W.widen (k := 189 + 4 * (k + 1)) (n := 11355 + 38 * (k + 1)) (by omega) (by omega) ?_
  exact next nT M2 _ _ hR hP hS
set_option maxRecDepth 100000 in
set_option maxHeartbeats 4000000 in
theorem lw_c1 (Y : LX p s m meth c G cy b L B xs) (HC : S_lot Rl) {nT k : Nat} {M : Mem} {H : Heap} {locs : List Loc} {ls : Array Slot} (hk : 6 * k + 6 ≤ L) (hR : Rl nT M) (hP : Pic G B cy nT M H) (hS : va_S (FB B) s.heap H locs) (hl : lv_has ls 4 [(0, .ref b), (1, .ref (B + 0)), (2, .ref (B + 119)), (3, .int (nI (6 * k)))]) (next : ∀ (nT : Nat) (M : Mem) (H : Heap) (locs : List Loc), Rl nT M → Pic G B cy nT M H → va_S (FB B) s.heap H locs → W p l e room_1 s m #[Value.ref b] below meth c H locs (189 + 4 * (k + 1)) (11355 + 38 * (k + 1)) (lw_Z below #[Value.ref b] s) (F0 m 1025 ls [])) : W p l e room_1 s m #[Value.ref b] below meth c H locs (189 + 4 * k) (11355 + 38 * k) (lw_Z below #[Value.ref b] s) (F0 m 215 ls []) := by
  obtain ⟨X, hO, hX, hbl, hB, hL⟩ := Y
  have hbA : ¬ FB B b := by unfold FB; omega
  obtain ⟨hx, hb, hr, hml, hown, hts, hKn, hlk⟩ := id X
  obtain ⟨r, M1, M2, h8, h9, hR⟩ := HC nT M (xs (nI (6 * k + 1)).toNatClampNeg) (xs (nI (6 * k + 2)).toNatClampNeg) (xs (nI (6 * k + 3)).toNatClampNeg) (xs (nI (6 * k + 4)).toNatClampNeg) hR
  refine lv_aload_n hx hb dL_law_215 rfl (lv_at hl 1 rfl) ?_
  refine lv_aload_n hx hb dL_law_216 rfl (lv_at hl 0 rfl) ?_
  refine lv_iload_n hx hb dL_law_217 rfl (lv_at hl 3 rfl) ?_
  refine lv_iconst (v := 1) hx hb dL_law_218 (by decide) ?_
  refine lv_iadd hx hb dL_law_219 ?_
  refine r_topi (sx_1 (6 * k)) ?_
  refine va_sld hx hb hX hbl hbA hS (vp_in_nI (n := 6 * k + 1) (by omega) (by omega)) dL_law_220 ?_
  refine lv_aload_n hx hb dL_law_221 rfl (lv_at hl 0 rfl) ?_
  refine lv_iload_n hx hb dL_law_222 rfl (lv_at hl 3 rfl) ?_
  refine lv_iconst (v := 2) hx hb dL_law_223 (by decide) ?_
  refine lv_iadd hx hb dL_law_224 ?_
  refine r_topi (sx_2 (6 * k)) ?_
  refine va_sld hx hb hX hbl hbA hS (vp_in_nI (n := 6 * k + 2) (by omega) (by omega)) dL_law_225 ?_
  refine lv_aload_n hx hb dL_law_226 rfl (lv_at hl 0 rfl) ?_
  refine lv_iload_n hx hb dL_law_227 rfl (lv_at hl 3 rfl) ?_
  refine lv_iconst (v := 3) hx hb dL_law_228 (by decide) ?_
  refine lv_iadd hx hb dL_law_229 ?_
  refine r_topi (sx_3 (6 * k)) ?_
  refine va_sld hx hb hX hbl hbA hS (vp_in_nI (n := 6 * k + 3) (by omega) (by omega)) dL_law_230 ?_
  refine lv_aload_n hx hb dL_law_231 rfl (lv_at hl 0 rfl) ?_
  refine lv_iload_n hx hb dL_law_232 rfl (lv_at hl 3 rfl) ?_
  refine lv_iconst (v := 4) hx hb dL_law_233 (by decide) ?_
  refine lv_iadd hx hb dL_law_234 ?_
  refine r_topi (sx_4 (6 * k)) ?_
  refine va_sld hx hb hX hbl hbA hS (vp_in_nI (n := 6 * k + 4) (by omega) (by omega)) dL_law_235 ?_
  refine cl_i (rn_V (C := RX8) (ci := 8) X hP (c_X8_lot h8) kq_0 rfl k_206 k_207 k_208 k_1 k_209 rfl hd_X8_lot (n := 4) ⟨⟨rfl, rfl⟩, Nat.le_of_ble_eq_true rfl, Nat.le_of_ble_eq_true rfl⟩ (As := [.int (xs (nI (6 * k + 1)).toNatClampNeg), .int (xs (nI (6 * k + 2)).toNatClampNeg), .int (xs (nI (6 * k + 3)).toNatClampNeg), .int (xs (nI (6 * k + 4)).toNatClampNeg)]) (rest := []) rfl hl.1 rfl (Nat.le_of_ble_eq_true rfl) dL_law_236 ⟨by simp only [room_1]; omega, by simp only [room_1]; omega⟩) hS (fun H locs hP hS => ?_)
  refine lv_aload_n hx hb dL_law_239 rfl (lv_at hl 2 rfl) ?_
  refine lv_aload_n hx hb dL_law_240 rfl (lv_at hl 0 rfl) ?_
  refine lv_iload_n hx hb dL_law_241 rfl (lv_at hl 3 rfl) ?_
  refine lv_iconst (v := 1) hx hb dL_law_242 (by decide) ?_
  refine lv_iadd hx hb dL_law_243 ?_
  refine r_topi (sx_1 (6 * k)) ?_
  refine va_sld hx hb hX hbl hbA hS (vp_in_nI (n := 6 * k + 1) (by omega) (by omega)) dL_law_244 ?_
  refine lv_aload_n hx hb dL_law_245 rfl (lv_at hl 0 rfl) ?_
  refine lv_iload_n hx hb dL_law_246 rfl (lv_at hl 3 rfl) ?_
  refine lv_iconst (v := 2) hx hb dL_law_247 (by decide) ?_
  refine lv_iadd hx hb dL_law_248 ?_
  refine r_topi (sx_2 (6 * k)) ?_
  refine va_sld hx hb hX hbl hbA hS (vp_in_nI (n := 6 * k + 2) (by omega) (by omega)) dL_law_249 ?_
  refine lv_aload_n hx hb dL_law_250 rfl (lv_at hl 0 rfl) ?_
  refine lv_iload_n hx hb dL_law_251 rfl (lv_at hl 3 rfl) ?_
  refine lv_iconst (v := 3) hx hb dL_law_252 (by decide) ?_
  refine lv_iadd hx hb dL_law_253 ?_
  refine r_topi (sx_3 (6 * k)) ?_
  refine va_sld hx hb hX hbl hbA hS (vp_in_nI (n := 6 * k + 3) (by omega) (by omega)) dL_law_254 ?_
  refine lv_aload_n hx hb dL_law_255 rfl (lv_at hl 0 rfl) ?_
  refine lv_iload_n hx hb dL_law_256 rfl (lv_at hl 3 rfl) ?_
  refine lv_iconst (v := 4) hx hb dL_law_257 (by decide) ?_
  refine lv_iadd hx hb dL_law_258 ?_
  refine r_topi (sx_4 (6 * k)) ?_
  refine va_sld hx hb hX hbl hbA hS (vp_in_nI (n := 6 * k + 4) (by omega) (by omega)) dL_law_259 ?_
  refine cl_i (rn_V (C := RX9) (ci := 9) X hP (c_X9_lot h9) kq_119 rfl k_652 k_653 k_654 k_9 k_655 rfl hd_X9_lot (n := 4) ⟨⟨rfl, rfl⟩, Nat.le_of_ble_eq_true rfl, Nat.le_of_ble_eq_true rfl⟩ (As := [.int (xs (nI (6 * k + 1)).toNatClampNeg), .int (xs (nI (6 * k + 2)).toNatClampNeg), .int (xs (nI (6 * k + 3)).toNatClampNeg), .int (xs (nI (6 * k + 4)).toNatClampNeg)]) (rest := [.int r]) rfl hl.1 rfl (Nat.le_of_ble_eq_true rfl) dL_law_260 ⟨by simp only [room_1]; omega, by simp only [room_1]; omega⟩) hS (fun H locs hP hS => ?_)
  refine lv_icmp_eq (tgt := 1025) hx hb dL_law_263 (by decide) (fun hc => ?_) (fun hc => absurd rfl hc)
  refine W.widen (k := 189 + 4 * (k + 1)) (n := 11355 + 38 * (k + 1)) (by omega) (by omega) ?_
  exact next nT M2 _ _ hR hP hS
set_option maxRecDepth 100000 in
set_option maxHeartbeats 4000000 in
theorem lw_c2 (Y : LX p s m meth c G cy b L B xs) (HC : S_empty Rl) {nT k : Nat} {M : Mem} {H : Heap} {locs : List Loc} {ls : Array Slot} (hk : 6 * k + 6 ≤ L) (hR : Rl nT M) (hP : Pic G B cy nT M H) (hS : va_S (FB B) s.heap H locs) (hl : lv_has ls 4 [(0, .ref b), (1, .ref (B + 0)), (2, .ref (B + 119)), (3, .int (nI (6 * k)))]) (next : ∀ (nT : Nat) (M : Mem) (H : Heap) (locs : List Loc), Rl nT M → Pic G B cy nT M H → va_S (FB B) s.heap H locs → W p l e room_1 s m #[Value.ref b] below meth c H locs (189 + 4 * (k + 1)) (11355 + 38 * (k + 1)) (lw_Z below #[Value.ref b] s) (F0 m 1025 ls [])) : W p l e room_1 s m #[Value.ref b] below meth c H locs (189 + 4 * k) (11355 + 38 * k) (lw_Z below #[Value.ref b] s) (F0 m 268 ls []) := by
  obtain ⟨X, hO, hX, hbl, hB, hL⟩ := Y
  have hbA : ¬ FB B b := by unfold FB; omega
  obtain ⟨hx, hb, hr, hml, hown, hts, hKn, hlk⟩ := id X
  obtain ⟨r, M1, M2, h8, h9, hR⟩ := HC nT M (xs (nI (6 * k + 1)).toNatClampNeg) hR
  refine lv_aload_n hx hb dL_law_268 rfl (lv_at hl 1 rfl) ?_
  refine lv_aload_n hx hb dL_law_269 rfl (lv_at hl 0 rfl) ?_
  refine lv_iload_n hx hb dL_law_270 rfl (lv_at hl 3 rfl) ?_
  refine lv_iconst (v := 1) hx hb dL_law_271 (by decide) ?_
  refine lv_iadd hx hb dL_law_272 ?_
  refine r_topi (sx_1 (6 * k)) ?_
  refine va_sld hx hb hX hbl hbA hS (vp_in_nI (n := 6 * k + 1) (by omega) (by omega)) dL_law_273 ?_
  refine cl_i (rn_V (C := RX8) (ci := 8) X hP (c_X8_empty h8) kq_0 rfl k_217 k_218 k_219 k_1 k_220 rfl hd_X8_empty (n := 1) ⟨⟨rfl, rfl⟩, Nat.le_of_ble_eq_true rfl, Nat.le_of_ble_eq_true rfl⟩ (As := [.int (xs (nI (6 * k + 1)).toNatClampNeg)]) (rest := []) rfl hl.1 rfl (Nat.le_of_ble_eq_true rfl) dL_law_274 ⟨by simp only [room_1]; omega, by simp only [room_1]; omega⟩) hS (fun H locs hP hS => ?_)
  refine lv_aload_n hx hb dL_law_277 rfl (lv_at hl 2 rfl) ?_
  refine lv_aload_n hx hb dL_law_278 rfl (lv_at hl 0 rfl) ?_
  refine lv_iload_n hx hb dL_law_279 rfl (lv_at hl 3 rfl) ?_
  refine lv_iconst (v := 1) hx hb dL_law_280 (by decide) ?_
  refine lv_iadd hx hb dL_law_281 ?_
  refine r_topi (sx_1 (6 * k)) ?_
  refine va_sld hx hb hX hbl hbA hS (vp_in_nI (n := 6 * k + 1) (by omega) (by omega)) dL_law_282 ?_
  refine cl_i (rn_V (C := RX9) (ci := 9) X hP (c_X9_empty h9) kq_119 rfl k_658 k_659 k_660 k_9 k_661 rfl hd_X9_empty (n := 1) ⟨⟨rfl, rfl⟩, Nat.le_of_ble_eq_true rfl, Nat.le_of_ble_eq_true rfl⟩ (As := [.int (xs (nI (6 * k + 1)).toNatClampNeg)]) (rest := [.int r]) rfl hl.1 rfl (Nat.le_of_ble_eq_true rfl) dL_law_283 ⟨by simp only [room_1]; omega, by simp only [room_1]; omega⟩) hS (fun H locs hP hS => ?_)
  refine lv_icmp_eq (tgt := 1025) hx hb dL_law_286 (by decide) (fun hc => ?_) (fun hc => absurd rfl hc)
  refine W.widen (k := 189 + 4 * (k + 1)) (n := 11355 + 38 * (k + 1)) (by omega) (by omega) ?_
  exact next nT M2 _ _ hR hP hS
set_option maxRecDepth 100000 in
set_option maxHeartbeats 4000000 in
theorem lw_c3 (Y : LX p s m meth c G cy b L B xs) (HC : S_holds Rl) {nT k : Nat} {M : Mem} {H : Heap} {locs : List Loc} {ls : Array Slot} (hk : 6 * k + 6 ≤ L) (hR : Rl nT M) (hP : Pic G B cy nT M H) (hS : va_S (FB B) s.heap H locs) (hl : lv_has ls 4 [(0, .ref b), (1, .ref (B + 0)), (2, .ref (B + 119)), (3, .int (nI (6 * k)))]) (next : ∀ (nT : Nat) (M : Mem) (H : Heap) (locs : List Loc), Rl nT M → Pic G B cy nT M H → va_S (FB B) s.heap H locs → W p l e room_1 s m #[Value.ref b] below meth c H locs (189 + 4 * (k + 1)) (11355 + 38 * (k + 1)) (lw_Z below #[Value.ref b] s) (F0 m 1025 ls [])) : W p l e room_1 s m #[Value.ref b] below meth c H locs (189 + 4 * k) (11355 + 38 * k) (lw_Z below #[Value.ref b] s) (F0 m 291 ls []) := by
  obtain ⟨X, hO, hX, hbl, hB, hL⟩ := Y
  have hbA : ¬ FB B b := by unfold FB; omega
  obtain ⟨hx, hb, hr, hml, hown, hts, hKn, hlk⟩ := id X
  obtain ⟨r, h8, h9⟩ := HC nT M (xs (nI (6 * k + 1)).toNatClampNeg) hR
  refine lv_aload_n hx hb dL_law_291 rfl (lv_at hl 1 rfl) ?_
  refine lv_aload_n hx hb dL_law_292 rfl (lv_at hl 0 rfl) ?_
  refine lv_iload_n hx hb dL_law_293 rfl (lv_at hl 3 rfl) ?_
  refine lv_iconst (v := 1) hx hb dL_law_294 (by decide) ?_
  refine lv_iadd hx hb dL_law_295 ?_
  refine r_topi (sx_1 (6 * k)) ?_
  refine va_sld hx hb hX hbl hbA hS (vp_in_nI (n := 6 * k + 1) (by omega) (by omega)) dL_law_296 ?_
  refine cl_i (rn_V (C := RX8) (ci := 8) X hP (c_X8_holds h8) kq_0 rfl k_221 k_222 k_223 k_1 k_224 rfl hd_X8_holds (n := 1) ⟨⟨rfl, rfl⟩, Nat.le_of_ble_eq_true rfl, Nat.le_of_ble_eq_true rfl⟩ (As := [.int (xs (nI (6 * k + 1)).toNatClampNeg)]) (rest := []) rfl hl.1 rfl (Nat.le_of_ble_eq_true rfl) dL_law_297 ⟨by simp only [room_1]; omega, by simp only [room_1]; omega⟩) hS (fun H locs hP hS => ?_)
  refine lv_aload_n hx hb dL_law_300 rfl (lv_at hl 2 rfl) ?_
  refine lv_aload_n hx hb dL_law_301 rfl (lv_at hl 0 rfl) ?_
  refine lv_iload_n hx hb dL_law_302 rfl (lv_at hl 3 rfl) ?_
  refine lv_iconst (v := 1) hx hb dL_law_303 (by decide) ?_
  refine lv_iadd hx hb dL_law_304 ?_
  refine r_topi (sx_1 (6 * k)) ?_
  refine va_sld hx hb hX hbl hbA hS (vp_in_nI (n := 6 * k + 1) (by omega) (by omega)) dL_law_305 ?_
  refine cl_i (rn_V (C := RX9) (ci := 9) X hP (c_X9_holds h9) kq_119 rfl k_662 k_663 k_664 k_9 k_665 rfl hd_X9_holds (n := 1) ⟨⟨rfl, rfl⟩, Nat.le_of_ble_eq_true rfl, Nat.le_of_ble_eq_true rfl⟩ (As := [.int (xs (nI (6 * k + 1)).toNatClampNeg)]) (rest := [.int r]) rfl hl.1 rfl (Nat.le_of_ble_eq_true rfl) dL_law_306 ⟨by simp only [room_1]; omega, by simp only [room_1]; omega⟩) hS (fun H locs hP hS => ?_)
  refine lv_icmp_eq (tgt := 1025) hx hb dL_law_309 (by decide) (fun hc => ?_) (fun hc => absurd rfl hc)
  refine W.widen (k := 189 + 4 * (k + 1)) (n := 11355 + 38 * (k + 1)) (by omega) (by omega) ?_
  exact next nT M _ _ hR hP hS
set_option maxRecDepth 100000 in
set_option maxHeartbeats 4000000 in
theorem lw_c4 (Y : LX p s m meth c G cy b L B xs) (HC : S_value Rl) {nT k : Nat} {M : Mem} {H : Heap} {locs : List Loc} {ls : Array Slot} (hk : 6 * k + 6 ≤ L) (hR : Rl nT M) (hP : Pic G B cy nT M H) (hS : va_S (FB B) s.heap H locs) (hl : lv_has ls 4 [(0, .ref b), (1, .ref (B + 0)), (2, .ref (B + 119)), (3, .int (nI (6 * k)))]) (next : ∀ (nT : Nat) (M : Mem) (H : Heap) (locs : List Loc), Rl nT M → Pic G B cy nT M H → va_S (FB B) s.heap H locs → W p l e room_1 s m #[Value.ref b] below meth c H locs (189 + 4 * (k + 1)) (11355 + 38 * (k + 1)) (lw_Z below #[Value.ref b] s) (F0 m 1025 ls [])) : W p l e room_1 s m #[Value.ref b] below meth c H locs (189 + 4 * k) (11355 + 38 * k) (lw_Z below #[Value.ref b] s) (F0 m 314 ls []) := by
  obtain ⟨X, hO, hX, hbl, hB, hL⟩ := Y
  have hbA : ¬ FB B b := by unfold FB; omega
  obtain ⟨hx, hb, hr, hml, hown, hts, hKn, hlk⟩ := id X
  obtain ⟨r, h8, h9⟩ := HC nT M (xs (nI (6 * k + 1)).toNatClampNeg) hR
  refine lv_aload_n hx hb dL_law_314 rfl (lv_at hl 1 rfl) ?_
  refine lv_aload_n hx hb dL_law_315 rfl (lv_at hl 0 rfl) ?_
  refine lv_iload_n hx hb dL_law_316 rfl (lv_at hl 3 rfl) ?_
  refine lv_iconst (v := 1) hx hb dL_law_317 (by decide) ?_
  refine lv_iadd hx hb dL_law_318 ?_
  refine r_topi (sx_1 (6 * k)) ?_
  refine va_sld hx hb hX hbl hbA hS (vp_in_nI (n := 6 * k + 1) (by omega) (by omega)) dL_law_319 ?_
  refine cl_l (rn_V (C := RX8) (ci := 8) X hP (c_X8_value h8) kq_0 rfl k_225 k_226 k_227 k_1 k_228 rfl hd_X8_value (n := 1) ⟨⟨rfl, rfl⟩, Nat.le_of_ble_eq_true rfl, Nat.le_of_ble_eq_true rfl⟩ (As := [.int (xs (nI (6 * k + 1)).toNatClampNeg)]) (rest := []) rfl hl.1 rfl (Nat.le_of_ble_eq_true rfl) dL_law_320 ⟨by simp only [room_1]; omega, by simp only [room_1]; omega⟩) hS (fun H locs hP hS => ?_)
  refine lv_aload_n hx hb dL_law_323 rfl (lv_at hl 2 rfl) ?_
  refine lv_aload_n hx hb dL_law_324 rfl (lv_at hl 0 rfl) ?_
  refine lv_iload_n hx hb dL_law_325 rfl (lv_at hl 3 rfl) ?_
  refine lv_iconst (v := 1) hx hb dL_law_326 (by decide) ?_
  refine lv_iadd hx hb dL_law_327 ?_
  refine r_topi (sx_1 (6 * k)) ?_
  refine va_sld hx hb hX hbl hbA hS (vp_in_nI (n := 6 * k + 1) (by omega) (by omega)) dL_law_328 ?_
  refine cl_l (rn_V (C := RX9) (ci := 9) X hP (c_X9_value h9) kq_119 rfl k_666 k_667 k_668 k_9 k_669 rfl hd_X9_value (n := 1) ⟨⟨rfl, rfl⟩, Nat.le_of_ble_eq_true rfl, Nat.le_of_ble_eq_true rfl⟩ (As := [.int (xs (nI (6 * k + 1)).toNatClampNeg)]) (rest := [.long r]) rfl hl.1 rfl (Nat.le_of_ble_eq_true rfl) dL_law_329 ⟨by simp only [room_1]; omega, by simp only [room_1]; omega⟩) hS (fun H locs hP hS => ?_)
  refine W.lcmp hx hb dL_law_332 ?_
  refine lv_if_eq (tgt := 1025) hx hb dL_law_333 (by decide) (fun hc => ?_) (fun hc => absurd (lc_eq.mpr rfl) hc)
  refine W.widen (k := 189 + 4 * (k + 1)) (n := 11355 + 38 * (k + 1)) (by omega) (by omega) ?_
  exact next nT M _ _ hR hP hS
set_option maxRecDepth 100000 in
set_option maxHeartbeats 4000000 in
theorem lw_c5 (Y : LX p s m meth c G cy b L B xs) (HC : S_cell Rl) {nT k : Nat} {M : Mem} {H : Heap} {locs : List Loc} {ls : Array Slot} (hk : 6 * k + 6 ≤ L) (hR : Rl nT M) (hP : Pic G B cy nT M H) (hS : va_S (FB B) s.heap H locs) (hl : lv_has ls 4 [(0, .ref b), (1, .ref (B + 0)), (2, .ref (B + 119)), (3, .int (nI (6 * k)))]) (next : ∀ (nT : Nat) (M : Mem) (H : Heap) (locs : List Loc), Rl nT M → Pic G B cy nT M H → va_S (FB B) s.heap H locs → W p l e room_1 s m #[Value.ref b] below meth c H locs (189 + 4 * (k + 1)) (11355 + 38 * (k + 1)) (lw_Z below #[Value.ref b] s) (F0 m 1025 ls [])) : W p l e room_1 s m #[Value.ref b] below meth c H locs (189 + 4 * k) (11355 + 38 * k) (lw_Z below #[Value.ref b] s) (F0 m 338 ls []) := by
  obtain ⟨X, hO, hX, hbl, hB, hL⟩ := Y
  have hbA : ¬ FB B b := by unfold FB; omega
  obtain ⟨hx, hb, hr, hml, hown, hts, hKn, hlk⟩ := id X
  obtain ⟨r, h8, h9⟩ := HC nT M (xs (nI (6 * k + 1)).toNatClampNeg) (xs (nI (6 * k + 2)).toNatClampNeg) hR
  refine lv_aload_n hx hb dL_law_338 rfl (lv_at hl 1 rfl) ?_
  refine lv_aload_n hx hb dL_law_339 rfl (lv_at hl 0 rfl) ?_
  refine lv_iload_n hx hb dL_law_340 rfl (lv_at hl 3 rfl) ?_
  refine lv_iconst (v := 1) hx hb dL_law_341 (by decide) ?_
  refine lv_iadd hx hb dL_law_342 ?_
  refine r_topi (sx_1 (6 * k)) ?_
  refine va_sld hx hb hX hbl hbA hS (vp_in_nI (n := 6 * k + 1) (by omega) (by omega)) dL_law_343 ?_
  refine lv_aload_n hx hb dL_law_344 rfl (lv_at hl 0 rfl) ?_
  refine lv_iload_n hx hb dL_law_345 rfl (lv_at hl 3 rfl) ?_
  refine lv_iconst (v := 2) hx hb dL_law_346 (by decide) ?_
  refine lv_iadd hx hb dL_law_347 ?_
  refine r_topi (sx_2 (6 * k)) ?_
  refine va_sld hx hb hX hbl hbA hS (vp_in_nI (n := 6 * k + 2) (by omega) (by omega)) dL_law_348 ?_
  refine cl_i (rn_V (C := RX8) (ci := 8) X hP (c_X8_cell h8) kq_0 rfl k_229 k_230 k_231 k_1 k_232 rfl hd_X8_cell (n := 2) ⟨⟨rfl, rfl⟩, Nat.le_of_ble_eq_true rfl, Nat.le_of_ble_eq_true rfl⟩ (As := [.int (xs (nI (6 * k + 1)).toNatClampNeg), .int (xs (nI (6 * k + 2)).toNatClampNeg)]) (rest := []) rfl hl.1 rfl (Nat.le_of_ble_eq_true rfl) dL_law_349 ⟨by simp only [room_1]; omega, by simp only [room_1]; omega⟩) hS (fun H locs hP hS => ?_)
  refine lv_aload_n hx hb dL_law_352 rfl (lv_at hl 2 rfl) ?_
  refine lv_aload_n hx hb dL_law_353 rfl (lv_at hl 0 rfl) ?_
  refine lv_iload_n hx hb dL_law_354 rfl (lv_at hl 3 rfl) ?_
  refine lv_iconst (v := 1) hx hb dL_law_355 (by decide) ?_
  refine lv_iadd hx hb dL_law_356 ?_
  refine r_topi (sx_1 (6 * k)) ?_
  refine va_sld hx hb hX hbl hbA hS (vp_in_nI (n := 6 * k + 1) (by omega) (by omega)) dL_law_357 ?_
  refine lv_aload_n hx hb dL_law_358 rfl (lv_at hl 0 rfl) ?_
  refine lv_iload_n hx hb dL_law_359 rfl (lv_at hl 3 rfl) ?_
  refine lv_iconst (v := 2) hx hb dL_law_360 (by decide) ?_
  refine lv_iadd hx hb dL_law_361 ?_
  refine r_topi (sx_2 (6 * k)) ?_
  refine va_sld hx hb hX hbl hbA hS (vp_in_nI (n := 6 * k + 2) (by omega) (by omega)) dL_law_362 ?_
  refine cl_i (rn_V (C := RX9) (ci := 9) X hP (c_X9_cell h9) kq_119 rfl k_670 k_671 k_672 k_9 k_673 rfl hd_X9_cell (n := 2) ⟨⟨rfl, rfl⟩, Nat.le_of_ble_eq_true rfl, Nat.le_of_ble_eq_true rfl⟩ (As := [.int (xs (nI (6 * k + 1)).toNatClampNeg), .int (xs (nI (6 * k + 2)).toNatClampNeg)]) (rest := [.int r]) rfl hl.1 rfl (Nat.le_of_ble_eq_true rfl) dL_law_363 ⟨by simp only [room_1]; omega, by simp only [room_1]; omega⟩) hS (fun H locs hP hS => ?_)
  refine lv_icmp_eq (tgt := 1025) hx hb dL_law_366 (by decide) (fun hc => ?_) (fun hc => absurd rfl hc)
  refine W.widen (k := 189 + 4 * (k + 1)) (n := 11355 + 38 * (k + 1)) (by omega) (by omega) ?_
  exact next nT M _ _ hR hP hS
set_option maxRecDepth 100000 in
set_option maxHeartbeats 4000000 in
theorem lw_c6 (Y : LX p s m meth c G cy b L B xs) (HC : S_history Rl) {nT k : Nat} {M : Mem} {H : Heap} {locs : List Loc} {ls : Array Slot} (hk : 6 * k + 6 ≤ L) (hR : Rl nT M) (hP : Pic G B cy nT M H) (hS : va_S (FB B) s.heap H locs) (hl : lv_has ls 4 [(0, .ref b), (1, .ref (B + 0)), (2, .ref (B + 119)), (3, .int (nI (6 * k)))]) (next : ∀ (nT : Nat) (M : Mem) (H : Heap) (locs : List Loc), Rl nT M → Pic G B cy nT M H → va_S (FB B) s.heap H locs → W p l e room_1 s m #[Value.ref b] below meth c H locs (189 + 4 * (k + 1)) (11355 + 38 * (k + 1)) (lw_Z below #[Value.ref b] s) (F0 m 1025 ls [])) : W p l e room_1 s m #[Value.ref b] below meth c H locs (189 + 4 * k) (11355 + 38 * k) (lw_Z below #[Value.ref b] s) (F0 m 371 ls []) := by
  obtain ⟨X, hO, hX, hbl, hB, hL⟩ := Y
  have hbA : ¬ FB B b := by unfold FB; omega
  obtain ⟨hx, hb, hr, hml, hown, hts, hKn, hlk⟩ := id X
  obtain ⟨r, h8, h9⟩ := HC nT M (xs (nI (6 * k + 1)).toNatClampNeg) (xs (nI (6 * k + 2)).toNatClampNeg) hR
  refine lv_aload_n hx hb dL_law_371 rfl (lv_at hl 1 rfl) ?_
  refine lv_aload_n hx hb dL_law_372 rfl (lv_at hl 0 rfl) ?_
  refine lv_iload_n hx hb dL_law_373 rfl (lv_at hl 3 rfl) ?_
  refine lv_iconst (v := 1) hx hb dL_law_374 (by decide) ?_
  refine lv_iadd hx hb dL_law_375 ?_
  refine r_topi (sx_1 (6 * k)) ?_
  refine va_sld hx hb hX hbl hbA hS (vp_in_nI (n := 6 * k + 1) (by omega) (by omega)) dL_law_376 ?_
  refine lv_aload_n hx hb dL_law_377 rfl (lv_at hl 0 rfl) ?_
  refine lv_iload_n hx hb dL_law_378 rfl (lv_at hl 3 rfl) ?_
  refine lv_iconst (v := 2) hx hb dL_law_379 (by decide) ?_
  refine lv_iadd hx hb dL_law_380 ?_
  refine r_topi (sx_2 (6 * k)) ?_
  refine va_sld hx hb hX hbl hbA hS (vp_in_nI (n := 6 * k + 2) (by omega) (by omega)) dL_law_381 ?_
  refine cl_i (rn_V (C := RX8) (ci := 8) X hP (c_X8_history h8) kq_0 rfl k_233 k_234 k_235 k_1 k_236 rfl hd_X8_history (n := 2) ⟨⟨rfl, rfl⟩, Nat.le_of_ble_eq_true rfl, Nat.le_of_ble_eq_true rfl⟩ (As := [.int (xs (nI (6 * k + 1)).toNatClampNeg), .int (xs (nI (6 * k + 2)).toNatClampNeg)]) (rest := []) rfl hl.1 rfl (Nat.le_of_ble_eq_true rfl) dL_law_382 ⟨by simp only [room_1]; omega, by simp only [room_1]; omega⟩) hS (fun H locs hP hS => ?_)
  refine lv_aload_n hx hb dL_law_385 rfl (lv_at hl 2 rfl) ?_
  refine lv_aload_n hx hb dL_law_386 rfl (lv_at hl 0 rfl) ?_
  refine lv_iload_n hx hb dL_law_387 rfl (lv_at hl 3 rfl) ?_
  refine lv_iconst (v := 1) hx hb dL_law_388 (by decide) ?_
  refine lv_iadd hx hb dL_law_389 ?_
  refine r_topi (sx_1 (6 * k)) ?_
  refine va_sld hx hb hX hbl hbA hS (vp_in_nI (n := 6 * k + 1) (by omega) (by omega)) dL_law_390 ?_
  refine lv_aload_n hx hb dL_law_391 rfl (lv_at hl 0 rfl) ?_
  refine lv_iload_n hx hb dL_law_392 rfl (lv_at hl 3 rfl) ?_
  refine lv_iconst (v := 2) hx hb dL_law_393 (by decide) ?_
  refine lv_iadd hx hb dL_law_394 ?_
  refine r_topi (sx_2 (6 * k)) ?_
  refine va_sld hx hb hX hbl hbA hS (vp_in_nI (n := 6 * k + 2) (by omega) (by omega)) dL_law_395 ?_
  refine cl_i (rn_V (C := RX9) (ci := 9) X hP (c_X9_history h9) kq_119 rfl k_674 k_675 k_676 k_9 k_677 rfl hd_X9_history (n := 2) ⟨⟨rfl, rfl⟩, Nat.le_of_ble_eq_true rfl, Nat.le_of_ble_eq_true rfl⟩ (As := [.int (xs (nI (6 * k + 1)).toNatClampNeg), .int (xs (nI (6 * k + 2)).toNatClampNeg)]) (rest := [.int r]) rfl hl.1 rfl (Nat.le_of_ble_eq_true rfl) dL_law_396 ⟨by simp only [room_1]; omega, by simp only [room_1]; omega⟩) hS (fun H locs hP hS => ?_)
  refine lv_icmp_eq (tgt := 1025) hx hb dL_law_399 (by decide) (fun hc => ?_) (fun hc => absurd rfl hc)
  refine W.widen (k := 189 + 4 * (k + 1)) (n := 11355 + 38 * (k + 1)) (by omega) (by omega) ?_
  exact next nT M _ _ hR hP hS
set_option maxRecDepth 100000 in
set_option maxHeartbeats 4000000 in
theorem lw_c7 (Y : LX p s m meth c G cy b L B xs) (HC : S_stock Rl) {nT k : Nat} {M : Mem} {H : Heap} {locs : List Loc} {ls : Array Slot} (hk : 6 * k + 6 ≤ L) (hR : Rl nT M) (hP : Pic G B cy nT M H) (hS : va_S (FB B) s.heap H locs) (hl : lv_has ls 4 [(0, .ref b), (1, .ref (B + 0)), (2, .ref (B + 119)), (3, .int (nI (6 * k)))]) (next : ∀ (nT : Nat) (M : Mem) (H : Heap) (locs : List Loc), Rl nT M → Pic G B cy nT M H → va_S (FB B) s.heap H locs → W p l e room_1 s m #[Value.ref b] below meth c H locs (189 + 4 * (k + 1)) (11355 + 38 * (k + 1)) (lw_Z below #[Value.ref b] s) (F0 m 1025 ls [])) : W p l e room_1 s m #[Value.ref b] below meth c H locs (189 + 4 * k) (11355 + 38 * k) (lw_Z below #[Value.ref b] s) (F0 m 404 ls []) := by
  obtain ⟨X, hO, hX, hbl, hB, hL⟩ := Y
  have hbA : ¬ FB B b := by unfold FB; omega
  obtain ⟨hx, hb, hr, hml, hown, hts, hKn, hlk⟩ := id X
  obtain ⟨r, h8, h9⟩ := HC nT M (xs (nI (6 * k + 1)).toNatClampNeg) (xs (nI (6 * k + 2)).toNatClampNeg) hR
  refine lv_aload_n hx hb dL_law_404 rfl (lv_at hl 1 rfl) ?_
  refine lv_aload_n hx hb dL_law_405 rfl (lv_at hl 0 rfl) ?_
  refine lv_iload_n hx hb dL_law_406 rfl (lv_at hl 3 rfl) ?_
  refine lv_iconst (v := 1) hx hb dL_law_407 (by decide) ?_
  refine lv_iadd hx hb dL_law_408 ?_
  refine r_topi (sx_1 (6 * k)) ?_
  refine va_sld hx hb hX hbl hbA hS (vp_in_nI (n := 6 * k + 1) (by omega) (by omega)) dL_law_409 ?_
  refine lv_aload_n hx hb dL_law_410 rfl (lv_at hl 0 rfl) ?_
  refine lv_iload_n hx hb dL_law_411 rfl (lv_at hl 3 rfl) ?_
  refine lv_iconst (v := 2) hx hb dL_law_412 (by decide) ?_
  refine lv_iadd hx hb dL_law_413 ?_
  refine r_topi (sx_2 (6 * k)) ?_
  refine va_sld hx hb hX hbl hbA hS (vp_in_nI (n := 6 * k + 2) (by omega) (by omega)) dL_law_414 ?_
  refine cl_l (rn_V (C := RX8) (ci := 8) X hP (c_X8_stock h8) kq_0 rfl k_237 k_238 k_239 k_1 k_240 rfl hd_X8_stock (n := 2) ⟨⟨rfl, rfl⟩, Nat.le_of_ble_eq_true rfl, Nat.le_of_ble_eq_true rfl⟩ (As := [.int (xs (nI (6 * k + 1)).toNatClampNeg), .int (xs (nI (6 * k + 2)).toNatClampNeg)]) (rest := []) rfl hl.1 rfl (Nat.le_of_ble_eq_true rfl) dL_law_415 ⟨by simp only [room_1]; omega, by simp only [room_1]; omega⟩) hS (fun H locs hP hS => ?_)
  refine lv_aload_n hx hb dL_law_418 rfl (lv_at hl 2 rfl) ?_
  refine lv_aload_n hx hb dL_law_419 rfl (lv_at hl 0 rfl) ?_
  refine lv_iload_n hx hb dL_law_420 rfl (lv_at hl 3 rfl) ?_
  refine lv_iconst (v := 1) hx hb dL_law_421 (by decide) ?_
  refine lv_iadd hx hb dL_law_422 ?_
  refine r_topi (sx_1 (6 * k)) ?_
  refine va_sld hx hb hX hbl hbA hS (vp_in_nI (n := 6 * k + 1) (by omega) (by omega)) dL_law_423 ?_
  refine lv_aload_n hx hb dL_law_424 rfl (lv_at hl 0 rfl) ?_
  refine lv_iload_n hx hb dL_law_425 rfl (lv_at hl 3 rfl) ?_
  refine lv_iconst (v := 2) hx hb dL_law_426 (by decide) ?_
  refine lv_iadd hx hb dL_law_427 ?_
  refine r_topi (sx_2 (6 * k)) ?_
  refine va_sld hx hb hX hbl hbA hS (vp_in_nI (n := 6 * k + 2) (by omega) (by omega)) dL_law_428 ?_
  refine cl_l (rn_V (C := RX9) (ci := 9) X hP (c_X9_stock h9) kq_119 rfl k_679 k_680 k_681 k_9 k_682 rfl hd_X9_stock (n := 2) ⟨⟨rfl, rfl⟩, Nat.le_of_ble_eq_true rfl, Nat.le_of_ble_eq_true rfl⟩ (As := [.int (xs (nI (6 * k + 1)).toNatClampNeg), .int (xs (nI (6 * k + 2)).toNatClampNeg)]) (rest := [.long r]) rfl hl.1 rfl (Nat.le_of_ble_eq_true rfl) dL_law_429 ⟨by simp only [room_1]; omega, by simp only [room_1]; omega⟩) hS (fun H locs hP hS => ?_)
  refine W.lcmp hx hb dL_law_432 ?_
  refine lv_if_eq (tgt := 1025) hx hb dL_law_433 (by decide) (fun hc => ?_) (fun hc => absurd (lc_eq.mpr rfl) hc)
  refine W.widen (k := 189 + 4 * (k + 1)) (n := 11355 + 38 * (k + 1)) (by omega) (by omega) ?_
  exact next nT M _ _ hR hP hS
set_option maxRecDepth 100000 in
set_option maxHeartbeats 4000000 in
theorem lw_c8 (Y : LX p s m meth c G cy b L B xs) (HC : S_step Rl) {nT k : Nat} {M : Mem} {H : Heap} {locs : List Loc} {ls : Array Slot} (hk : 6 * k + 6 ≤ L) (hR : Rl nT M) (hP : Pic G B cy nT M H) (hS : va_S (FB B) s.heap H locs) (hl : lv_has ls 4 [(0, .ref b), (1, .ref (B + 0)), (2, .ref (B + 119)), (3, .int (nI (6 * k)))]) (next : ∀ (nT : Nat) (M : Mem) (H : Heap) (locs : List Loc), Rl nT M → Pic G B cy nT M H → va_S (FB B) s.heap H locs → W p l e room_1 s m #[Value.ref b] below meth c H locs (189 + 4 * (k + 1)) (11355 + 38 * (k + 1)) (lw_Z below #[Value.ref b] s) (F0 m 1025 ls [])) : W p l e room_1 s m #[Value.ref b] below meth c H locs (189 + 4 * k) (11355 + 38 * k) (lw_Z below #[Value.ref b] s) (F0 m 438 ls []) := by
  obtain ⟨X, hO, hX, hbl, hB, hL⟩ := Y
  have hbA : ¬ FB B b := by unfold FB; omega
  obtain ⟨hx, hb, hr, hml, hown, hts, hKn, hlk⟩ := id X
  obtain ⟨r, M1, M2, h8, h9, hR⟩ := HC nT M (xs (nI (6 * k + 1)).toNatClampNeg) (xs (nI (6 * k + 2)).toNatClampNeg) (xs (nI (6 * k + 3)).toNatClampNeg) (xs (nI (6 * k + 4)).toNatClampNeg) hR
  refine lv_aload_n hx hb dL_law_438 rfl (lv_at hl 1 rfl) ?_
  refine lv_aload_n hx hb dL_law_439 rfl (lv_at hl 0 rfl) ?_
  refine lv_iload_n hx hb dL_law_440 rfl (lv_at hl 3 rfl) ?_
  refine lv_iconst (v := 1) hx hb dL_law_441 (by decide) ?_
  refine lv_iadd hx hb dL_law_442 ?_
  refine r_topi (sx_1 (6 * k)) ?_
  refine va_sld hx hb hX hbl hbA hS (vp_in_nI (n := 6 * k + 1) (by omega) (by omega)) dL_law_443 ?_
  refine lv_aload_n hx hb dL_law_444 rfl (lv_at hl 0 rfl) ?_
  refine lv_iload_n hx hb dL_law_445 rfl (lv_at hl 3 rfl) ?_
  refine lv_iconst (v := 2) hx hb dL_law_446 (by decide) ?_
  refine lv_iadd hx hb dL_law_447 ?_
  refine r_topi (sx_2 (6 * k)) ?_
  refine va_sld hx hb hX hbl hbA hS (vp_in_nI (n := 6 * k + 2) (by omega) (by omega)) dL_law_448 ?_
  refine lv_aload_n hx hb dL_law_449 rfl (lv_at hl 0 rfl) ?_
  refine lv_iload_n hx hb dL_law_450 rfl (lv_at hl 3 rfl) ?_
  refine lv_iconst (v := 3) hx hb dL_law_451 (by decide) ?_
  refine lv_iadd hx hb dL_law_452 ?_
  refine r_topi (sx_3 (6 * k)) ?_
  refine va_sld hx hb hX hbl hbA hS (vp_in_nI (n := 6 * k + 3) (by omega) (by omega)) dL_law_453 ?_
  refine lv_aload_n hx hb dL_law_454 rfl (lv_at hl 0 rfl) ?_
  refine lv_iload_n hx hb dL_law_455 rfl (lv_at hl 3 rfl) ?_
  refine lv_iconst (v := 4) hx hb dL_law_456 (by decide) ?_
  refine lv_iadd hx hb dL_law_457 ?_
  refine r_topi (sx_4 (6 * k)) ?_
  refine va_sld hx hb hX hbl hbA hS (vp_in_nI (n := 6 * k + 4) (by omega) (by omega)) dL_law_458 ?_
  refine cl_i (rn_V (C := RX8) (ci := 8) X hP (c_X8_step h8) kq_0 rfl k_250 k_251 k_252 k_1 k_253 rfl hd_X8_step (n := 4) ⟨⟨rfl, rfl⟩, Nat.le_of_ble_eq_true rfl, Nat.le_of_ble_eq_true rfl⟩ (As := [.int (xs (nI (6 * k + 1)).toNatClampNeg), .int (xs (nI (6 * k + 2)).toNatClampNeg), .int (xs (nI (6 * k + 3)).toNatClampNeg), .int (xs (nI (6 * k + 4)).toNatClampNeg)]) (rest := []) rfl hl.1 rfl (Nat.le_of_ble_eq_true rfl) dL_law_459 ⟨by simp only [room_1]; omega, by simp only [room_1]; omega⟩) hS (fun H locs hP hS => ?_)
  refine lv_aload_n hx hb dL_law_462 rfl (lv_at hl 2 rfl) ?_
  refine lv_aload_n hx hb dL_law_463 rfl (lv_at hl 0 rfl) ?_
  refine lv_iload_n hx hb dL_law_464 rfl (lv_at hl 3 rfl) ?_
  refine lv_iconst (v := 1) hx hb dL_law_465 (by decide) ?_
  refine lv_iadd hx hb dL_law_466 ?_
  refine r_topi (sx_1 (6 * k)) ?_
  refine va_sld hx hb hX hbl hbA hS (vp_in_nI (n := 6 * k + 1) (by omega) (by omega)) dL_law_467 ?_
  refine lv_aload_n hx hb dL_law_468 rfl (lv_at hl 0 rfl) ?_
  refine lv_iload_n hx hb dL_law_469 rfl (lv_at hl 3 rfl) ?_
  refine lv_iconst (v := 2) hx hb dL_law_470 (by decide) ?_
  refine lv_iadd hx hb dL_law_471 ?_
  refine r_topi (sx_2 (6 * k)) ?_
  refine va_sld hx hb hX hbl hbA hS (vp_in_nI (n := 6 * k + 2) (by omega) (by omega)) dL_law_472 ?_
  refine lv_aload_n hx hb dL_law_473 rfl (lv_at hl 0 rfl) ?_
  refine lv_iload_n hx hb dL_law_474 rfl (lv_at hl 3 rfl) ?_
  refine lv_iconst (v := 3) hx hb dL_law_475 (by decide) ?_
  refine lv_iadd hx hb dL_law_476 ?_
  refine r_topi (sx_3 (6 * k)) ?_
  refine va_sld hx hb hX hbl hbA hS (vp_in_nI (n := 6 * k + 3) (by omega) (by omega)) dL_law_477 ?_
  refine lv_aload_n hx hb dL_law_478 rfl (lv_at hl 0 rfl) ?_
  refine lv_iload_n hx hb dL_law_479 rfl (lv_at hl 3 rfl) ?_
  refine lv_iconst (v := 4) hx hb dL_law_480 (by decide) ?_
  refine lv_iadd hx hb dL_law_481 ?_
  refine r_topi (sx_4 (6 * k)) ?_
  refine va_sld hx hb hX hbl hbA hS (vp_in_nI (n := 6 * k + 4) (by omega) (by omega)) dL_law_482 ?_
  refine cl_i (rn_V (C := RX9) (ci := 9) X hP (c_X9_step h9) kq_119 rfl k_684 k_685 k_686 k_9 k_687 rfl hd_X9_step (n := 4) ⟨⟨rfl, rfl⟩, Nat.le_of_ble_eq_true rfl, Nat.le_of_ble_eq_true rfl⟩ (As := [.int (xs (nI (6 * k + 1)).toNatClampNeg), .int (xs (nI (6 * k + 2)).toNatClampNeg), .int (xs (nI (6 * k + 3)).toNatClampNeg), .int (xs (nI (6 * k + 4)).toNatClampNeg)]) (rest := [.int r]) rfl hl.1 rfl (Nat.le_of_ble_eq_true rfl) dL_law_483 ⟨by simp only [room_1]; omega, by simp only [room_1]; omega⟩) hS (fun H locs hP hS => ?_)
  refine lv_icmp_eq (tgt := 1025) hx hb dL_law_486 (by decide) (fun hc => ?_) (fun hc => absurd rfl hc)
  refine W.widen (k := 189 + 4 * (k + 1)) (n := 11355 + 38 * (k + 1)) (by omega) (by omega) ?_
  exact next nT M2 _ _ hR hP hS
set_option maxRecDepth 100000 in
set_option maxHeartbeats 4000000 in
theorem lw_c9 (Y : LX p s m meth c G cy b L B xs) (HC : S_drop Rl) {nT k : Nat} {M : Mem} {H : Heap} {locs : List Loc} {ls : Array Slot} (hk : 6 * k + 6 ≤ L) (hR : Rl nT M) (hP : Pic G B cy nT M H) (hS : va_S (FB B) s.heap H locs) (hl : lv_has ls 4 [(0, .ref b), (1, .ref (B + 0)), (2, .ref (B + 119)), (3, .int (nI (6 * k)))]) (next : ∀ (nT : Nat) (M : Mem) (H : Heap) (locs : List Loc), Rl nT M → Pic G B cy nT M H → va_S (FB B) s.heap H locs → W p l e room_1 s m #[Value.ref b] below meth c H locs (189 + 4 * (k + 1)) (11355 + 38 * (k + 1)) (lw_Z below #[Value.ref b] s) (F0 m 1025 ls [])) : W p l e room_1 s m #[Value.ref b] below meth c H locs (189 + 4 * k) (11355 + 38 * k) (lw_Z below #[Value.ref b] s) (F0 m 491 ls []) := by
  obtain ⟨X, hO, hX, hbl, hB, hL⟩ := Y
  have hbA : ¬ FB B b := by unfold FB; omega
  obtain ⟨hx, hb, hr, hml, hown, hts, hKn, hlk⟩ := id X
  obtain ⟨r, M1, M2, h8, h9, hR⟩ := HC nT M (xs (nI (6 * k + 1)).toNatClampNeg) hR
  refine lv_aload_n hx hb dL_law_491 rfl (lv_at hl 1 rfl) ?_
  refine lv_aload_n hx hb dL_law_492 rfl (lv_at hl 0 rfl) ?_
  refine lv_iload_n hx hb dL_law_493 rfl (lv_at hl 3 rfl) ?_
  refine lv_iconst (v := 1) hx hb dL_law_494 (by decide) ?_
  refine lv_iadd hx hb dL_law_495 ?_
  refine r_topi (sx_1 (6 * k)) ?_
  refine va_sld hx hb hX hbl hbA hS (vp_in_nI (n := 6 * k + 1) (by omega) (by omega)) dL_law_496 ?_
  refine cl_i (rn_V (C := RX8) (ci := 8) X hP (c_X8_drop h8) kq_0 rfl k_266 k_267 k_268 k_1 k_269 rfl hd_X8_drop (n := 1) ⟨⟨rfl, rfl⟩, Nat.le_of_ble_eq_true rfl, Nat.le_of_ble_eq_true rfl⟩ (As := [.int (xs (nI (6 * k + 1)).toNatClampNeg)]) (rest := []) rfl hl.1 rfl (Nat.le_of_ble_eq_true rfl) dL_law_497 ⟨by simp only [room_1]; omega, by simp only [room_1]; omega⟩) hS (fun H locs hP hS => ?_)
  refine lv_aload_n hx hb dL_law_500 rfl (lv_at hl 2 rfl) ?_
  refine lv_aload_n hx hb dL_law_501 rfl (lv_at hl 0 rfl) ?_
  refine lv_iload_n hx hb dL_law_502 rfl (lv_at hl 3 rfl) ?_
  refine lv_iconst (v := 1) hx hb dL_law_503 (by decide) ?_
  refine lv_iadd hx hb dL_law_504 ?_
  refine r_topi (sx_1 (6 * k)) ?_
  refine va_sld hx hb hX hbl hbA hS (vp_in_nI (n := 6 * k + 1) (by omega) (by omega)) dL_law_505 ?_
  refine cl_i (rn_V (C := RX9) (ci := 9) X hP (c_X9_drop h9) kq_119 rfl k_696 k_697 k_698 k_9 k_699 rfl hd_X9_drop (n := 1) ⟨⟨rfl, rfl⟩, Nat.le_of_ble_eq_true rfl, Nat.le_of_ble_eq_true rfl⟩ (As := [.int (xs (nI (6 * k + 1)).toNatClampNeg)]) (rest := [.int r]) rfl hl.1 rfl (Nat.le_of_ble_eq_true rfl) dL_law_506 ⟨by simp only [room_1]; omega, by simp only [room_1]; omega⟩) hS (fun H locs hP hS => ?_)
  refine lv_icmp_eq (tgt := 1025) hx hb dL_law_509 (by decide) (fun hc => ?_) (fun hc => absurd rfl hc)
  refine W.widen (k := 189 + 4 * (k + 1)) (n := 11355 + 38 * (k + 1)) (by omega) (by omega) ?_
  exact next nT M2 _ _ hR hP hS
set_option maxRecDepth 100000 in
set_option maxHeartbeats 4000000 in
theorem lw_c10 (Y : LX p s m meth c G cy b L B xs) (HC : S_clash Rl) {nT k : Nat} {M : Mem} {H : Heap} {locs : List Loc} {ls : Array Slot} (hk : 6 * k + 6 ≤ L) (hR : Rl nT M) (hP : Pic G B cy nT M H) (hS : va_S (FB B) s.heap H locs) (hl : lv_has ls 4 [(0, .ref b), (1, .ref (B + 0)), (2, .ref (B + 119)), (3, .int (nI (6 * k)))]) (next : ∀ (nT : Nat) (M : Mem) (H : Heap) (locs : List Loc), Rl nT M → Pic G B cy nT M H → va_S (FB B) s.heap H locs → W p l e room_1 s m #[Value.ref b] below meth c H locs (189 + 4 * (k + 1)) (11355 + 38 * (k + 1)) (lw_Z below #[Value.ref b] s) (F0 m 1025 ls [])) : W p l e room_1 s m #[Value.ref b] below meth c H locs (189 + 4 * k) (11355 + 38 * k) (lw_Z below #[Value.ref b] s) (F0 m 514 ls []) := by
  obtain ⟨X, hO, hX, hbl, hB, hL⟩ := Y
  have hbA : ¬ FB B b := by unfold FB; omega
  obtain ⟨hx, hb, hr, hml, hown, hts, hKn, hlk⟩ := id X
  obtain ⟨r, M1, M2, h8, h9, hR⟩ := HC nT M (xs (nI (6 * k + 1)).toNatClampNeg) (xs (nI (6 * k + 2)).toNatClampNeg) hR
  refine lv_aload_n hx hb dL_law_514 rfl (lv_at hl 1 rfl) ?_
  refine lv_aload_n hx hb dL_law_515 rfl (lv_at hl 0 rfl) ?_
  refine lv_iload_n hx hb dL_law_516 rfl (lv_at hl 3 rfl) ?_
  refine lv_iconst (v := 1) hx hb dL_law_517 (by decide) ?_
  refine lv_iadd hx hb dL_law_518 ?_
  refine r_topi (sx_1 (6 * k)) ?_
  refine va_sld hx hb hX hbl hbA hS (vp_in_nI (n := 6 * k + 1) (by omega) (by omega)) dL_law_519 ?_
  refine lv_aload_n hx hb dL_law_520 rfl (lv_at hl 0 rfl) ?_
  refine lv_iload_n hx hb dL_law_521 rfl (lv_at hl 3 rfl) ?_
  refine lv_iconst (v := 2) hx hb dL_law_522 (by decide) ?_
  refine lv_iadd hx hb dL_law_523 ?_
  refine r_topi (sx_2 (6 * k)) ?_
  refine va_sld hx hb hX hbl hbA hS (vp_in_nI (n := 6 * k + 2) (by omega) (by omega)) dL_law_524 ?_
  refine cl_i (rn_V (C := RX8) (ci := 8) X hP (c_X8_clash h8) kq_0 rfl k_270 k_271 k_272 k_1 k_273 rfl hd_X8_clash (n := 2) ⟨⟨rfl, rfl⟩, Nat.le_of_ble_eq_true rfl, Nat.le_of_ble_eq_true rfl⟩ (As := [.int (xs (nI (6 * k + 1)).toNatClampNeg), .int (xs (nI (6 * k + 2)).toNatClampNeg)]) (rest := []) rfl hl.1 rfl (Nat.le_of_ble_eq_true rfl) dL_law_525 ⟨by simp only [room_1]; omega, by simp only [room_1]; omega⟩) hS (fun H locs hP hS => ?_)
  refine lv_aload_n hx hb dL_law_528 rfl (lv_at hl 2 rfl) ?_
  refine lv_aload_n hx hb dL_law_529 rfl (lv_at hl 0 rfl) ?_
  refine lv_iload_n hx hb dL_law_530 rfl (lv_at hl 3 rfl) ?_
  refine lv_iconst (v := 1) hx hb dL_law_531 (by decide) ?_
  refine lv_iadd hx hb dL_law_532 ?_
  refine r_topi (sx_1 (6 * k)) ?_
  refine va_sld hx hb hX hbl hbA hS (vp_in_nI (n := 6 * k + 1) (by omega) (by omega)) dL_law_533 ?_
  refine lv_aload_n hx hb dL_law_534 rfl (lv_at hl 0 rfl) ?_
  refine lv_iload_n hx hb dL_law_535 rfl (lv_at hl 3 rfl) ?_
  refine lv_iconst (v := 2) hx hb dL_law_536 (by decide) ?_
  refine lv_iadd hx hb dL_law_537 ?_
  refine r_topi (sx_2 (6 * k)) ?_
  refine va_sld hx hb hX hbl hbA hS (vp_in_nI (n := 6 * k + 2) (by omega) (by omega)) dL_law_538 ?_
  refine cl_i (rn_V (C := RX9) (ci := 9) X hP (c_X9_clash h9) kq_119 rfl k_700 k_701 k_702 k_9 k_703 rfl hd_X9_clash (n := 2) ⟨⟨rfl, rfl⟩, Nat.le_of_ble_eq_true rfl, Nat.le_of_ble_eq_true rfl⟩ (As := [.int (xs (nI (6 * k + 1)).toNatClampNeg), .int (xs (nI (6 * k + 2)).toNatClampNeg)]) (rest := [.int r]) rfl hl.1 rfl (Nat.le_of_ble_eq_true rfl) dL_law_539 ⟨by simp only [room_1]; omega, by simp only [room_1]; omega⟩) hS (fun H locs hP hS => ?_)
  refine lv_icmp_eq (tgt := 1025) hx hb dL_law_542 (by decide) (fun hc => ?_) (fun hc => absurd rfl hc)
  refine W.widen (k := 189 + 4 * (k + 1)) (n := 11355 + 38 * (k + 1)) (by omega) (by omega) ?_
  exact next nT M2 _ _ hR hP hS
set_option maxRecDepth 100000 in
set_option maxHeartbeats 4000000 in
theorem lw_c11 (Y : LX p s m meth c G cy b L B xs) (HC : S_rule Rl) {nT k : Nat} {M : Mem} {H : Heap} {locs : List Loc} {ls : Array Slot} (hk : 6 * k + 6 ≤ L) (hR : Rl nT M) (hP : Pic G B cy nT M H) (hS : va_S (FB B) s.heap H locs) (hl : lv_has ls 4 [(0, .ref b), (1, .ref (B + 0)), (2, .ref (B + 119)), (3, .int (nI (6 * k)))]) (next : ∀ (nT : Nat) (M : Mem) (H : Heap) (locs : List Loc), Rl nT M → Pic G B cy nT M H → va_S (FB B) s.heap H locs → W p l e room_1 s m #[Value.ref b] below meth c H locs (189 + 4 * (k + 1)) (11355 + 38 * (k + 1)) (lw_Z below #[Value.ref b] s) (F0 m 1025 ls [])) : W p l e room_1 s m #[Value.ref b] below meth c H locs (189 + 4 * k) (11355 + 38 * k) (lw_Z below #[Value.ref b] s) (F0 m 547 ls []) := by
  obtain ⟨X, hO, hX, hbl, hB, hL⟩ := Y
  have hbA : ¬ FB B b := by unfold FB; omega
  obtain ⟨hx, hb, hr, hml, hown, hts, hKn, hlk⟩ := id X
  obtain ⟨r, M1, M2, h8, h9, hR⟩ := HC nT M (xs (nI (6 * k + 1)).toNatClampNeg) (xs (nI (6 * k + 2)).toNatClampNeg) (xs (nI (6 * k + 3)).toNatClampNeg) (((Int32.toInt64 (xs (nI (6 * k + 4)).toNatClampNeg)) <<< (Int32.toInt64 32 &&& 63)) ||| ((Int32.toInt64 (xs (nI (6 * k + 5)).toNatClampNeg)) &&& 4294967295)) hR
  refine lv_aload_n hx hb dL_law_547 rfl (lv_at hl 1 rfl) ?_
  refine lv_aload_n hx hb dL_law_548 rfl (lv_at hl 0 rfl) ?_
  refine lv_iload_n hx hb dL_law_549 rfl (lv_at hl 3 rfl) ?_
  refine lv_iconst (v := 1) hx hb dL_law_550 (by decide) ?_
  refine lv_iadd hx hb dL_law_551 ?_
  refine r_topi (sx_1 (6 * k)) ?_
  refine va_sld hx hb hX hbl hbA hS (vp_in_nI (n := 6 * k + 1) (by omega) (by omega)) dL_law_552 ?_
  refine lv_aload_n hx hb dL_law_553 rfl (lv_at hl 0 rfl) ?_
  refine lv_iload_n hx hb dL_law_554 rfl (lv_at hl 3 rfl) ?_
  refine lv_iconst (v := 2) hx hb dL_law_555 (by decide) ?_
  refine lv_iadd hx hb dL_law_556 ?_
  refine r_topi (sx_2 (6 * k)) ?_
  refine va_sld hx hb hX hbl hbA hS (vp_in_nI (n := 6 * k + 2) (by omega) (by omega)) dL_law_557 ?_
  refine lv_aload_n hx hb dL_law_558 rfl (lv_at hl 0 rfl) ?_
  refine lv_iload_n hx hb dL_law_559 rfl (lv_at hl 3 rfl) ?_
  refine lv_iconst (v := 3) hx hb dL_law_560 (by decide) ?_
  refine lv_iadd hx hb dL_law_561 ?_
  refine r_topi (sx_3 (6 * k)) ?_
  refine va_sld hx hb hX hbl hbA hS (vp_in_nI (n := 6 * k + 3) (by omega) (by omega)) dL_law_562 ?_
  refine lv_aload_n hx hb dL_law_563 rfl (lv_at hl 0 rfl) ?_
  refine lv_iload_n hx hb dL_law_564 rfl (lv_at hl 3 rfl) ?_
  refine lv_iconst (v := 4) hx hb dL_law_565 (by decide) ?_
  refine lv_iadd hx hb dL_law_566 ?_
  refine r_topi (sx_4 (6 * k)) ?_
  refine va_sld hx hb hX hbl hbA hS (vp_in_nI (n := 6 * k + 4) (by omega) (by omega)) dL_law_567 ?_
  refine lv_i2l (v := (Int32.toInt64 (xs (nI (6 * k + 4)).toNatClampNeg))) hx hb dL_law_568 rfl ?_
  refine lv_bipush (v := 32) hx hb dL_law_569 (by decide) ?_
  refine lv_lshl (v := ((Int32.toInt64 (xs (nI (6 * k + 4)).toNatClampNeg)) <<< (Int32.toInt64 32 &&& 63))) hx hb dL_law_571 rfl ?_
  refine lv_aload_n hx hb dL_law_572 rfl (lv_at hl 0 rfl) ?_
  refine lv_iload_n hx hb dL_law_573 rfl (lv_at hl 3 rfl) ?_
  refine lv_iconst (v := 5) hx hb dL_law_574 (by decide) ?_
  refine lv_iadd hx hb dL_law_575 ?_
  refine r_topi (sx_5 (6 * k)) ?_
  refine va_sld hx hb hX hbl hbA hS (vp_in_nI (n := 6 * k + 5) (by omega) (by omega)) dL_law_576 ?_
  refine lv_i2l (v := (Int32.toInt64 (xs (nI (6 * k + 5)).toNatClampNeg))) hx hb dL_law_577 rfl ?_
  refine lv_ldc2 (v := 4294967295) hx hb hown (hts _ k_874) dL_law_578 ?_
  refine lv_land hx hb dL_law_581 ?_
  refine lv_lor hx hb dL_law_582 ?_
  refine cl_i (rn_V (C := RX8) (ci := 8) X hP (c_X8_rule h8) kq_0 rfl k_274 k_275 k_276 k_1 k_277 rfl hd_X8_rule (n := 4) ⟨⟨rfl, rfl⟩, Nat.le_of_ble_eq_true rfl, Nat.le_of_ble_eq_true rfl⟩ (As := [.int (xs (nI (6 * k + 1)).toNatClampNeg), .int (xs (nI (6 * k + 2)).toNatClampNeg), .int (xs (nI (6 * k + 3)).toNatClampNeg), .long (((Int32.toInt64 (xs (nI (6 * k + 4)).toNatClampNeg)) <<< (Int32.toInt64 32 &&& 63)) ||| ((Int32.toInt64 (xs (nI (6 * k + 5)).toNatClampNeg)) &&& 4294967295))]) (rest := []) rfl hl.1 rfl (Nat.le_of_ble_eq_true rfl) dL_law_583 ⟨by simp only [room_1]; omega, by simp only [room_1]; omega⟩) hS (fun H locs hP hS => ?_)
  refine lv_aload_n hx hb dL_law_586 rfl (lv_at hl 2 rfl) ?_
  refine lv_aload_n hx hb dL_law_587 rfl (lv_at hl 0 rfl) ?_
  refine lv_iload_n hx hb dL_law_588 rfl (lv_at hl 3 rfl) ?_
  refine lv_iconst (v := 1) hx hb dL_law_589 (by decide) ?_
  refine lv_iadd hx hb dL_law_590 ?_
  refine r_topi (sx_1 (6 * k)) ?_
  refine va_sld hx hb hX hbl hbA hS (vp_in_nI (n := 6 * k + 1) (by omega) (by omega)) dL_law_591 ?_
  refine lv_aload_n hx hb dL_law_592 rfl (lv_at hl 0 rfl) ?_
  refine lv_iload_n hx hb dL_law_593 rfl (lv_at hl 3 rfl) ?_
  refine lv_iconst (v := 2) hx hb dL_law_594 (by decide) ?_
  refine lv_iadd hx hb dL_law_595 ?_
  refine r_topi (sx_2 (6 * k)) ?_
  refine va_sld hx hb hX hbl hbA hS (vp_in_nI (n := 6 * k + 2) (by omega) (by omega)) dL_law_596 ?_
  refine lv_aload_n hx hb dL_law_597 rfl (lv_at hl 0 rfl) ?_
  refine lv_iload_n hx hb dL_law_598 rfl (lv_at hl 3 rfl) ?_
  refine lv_iconst (v := 3) hx hb dL_law_599 (by decide) ?_
  refine lv_iadd hx hb dL_law_600 ?_
  refine r_topi (sx_3 (6 * k)) ?_
  refine va_sld hx hb hX hbl hbA hS (vp_in_nI (n := 6 * k + 3) (by omega) (by omega)) dL_law_601 ?_
  refine lv_aload_n hx hb dL_law_602 rfl (lv_at hl 0 rfl) ?_
  refine lv_iload_n hx hb dL_law_603 rfl (lv_at hl 3 rfl) ?_
  refine lv_iconst (v := 4) hx hb dL_law_604 (by decide) ?_
  refine lv_iadd hx hb dL_law_605 ?_
  refine r_topi (sx_4 (6 * k)) ?_
  refine va_sld hx hb hX hbl hbA hS (vp_in_nI (n := 6 * k + 4) (by omega) (by omega)) dL_law_606 ?_
  refine lv_i2l (v := (Int32.toInt64 (xs (nI (6 * k + 4)).toNatClampNeg))) hx hb dL_law_607 rfl ?_
  refine lv_bipush (v := 32) hx hb dL_law_608 (by decide) ?_
  refine lv_lshl (v := ((Int32.toInt64 (xs (nI (6 * k + 4)).toNatClampNeg)) <<< (Int32.toInt64 32 &&& 63))) hx hb dL_law_610 rfl ?_
  refine lv_aload_n hx hb dL_law_611 rfl (lv_at hl 0 rfl) ?_
  refine lv_iload_n hx hb dL_law_612 rfl (lv_at hl 3 rfl) ?_
  refine lv_iconst (v := 5) hx hb dL_law_613 (by decide) ?_
  refine lv_iadd hx hb dL_law_614 ?_
  refine r_topi (sx_5 (6 * k)) ?_
  refine va_sld hx hb hX hbl hbA hS (vp_in_nI (n := 6 * k + 5) (by omega) (by omega)) dL_law_615 ?_
  refine lv_i2l (v := (Int32.toInt64 (xs (nI (6 * k + 5)).toNatClampNeg))) hx hb dL_law_616 rfl ?_
  refine lv_ldc2 (v := 4294967295) hx hb hown (hts _ k_874) dL_law_617 ?_
  refine lv_land hx hb dL_law_620 ?_
  refine lv_lor hx hb dL_law_621 ?_
  refine cl_i (rn_V (C := RX9) (ci := 9) X hP (c_X9_rule h9) kq_119 rfl k_705 k_706 k_707 k_9 k_708 rfl hd_X9_rule (n := 4) ⟨⟨rfl, rfl⟩, Nat.le_of_ble_eq_true rfl, Nat.le_of_ble_eq_true rfl⟩ (As := [.int (xs (nI (6 * k + 1)).toNatClampNeg), .int (xs (nI (6 * k + 2)).toNatClampNeg), .int (xs (nI (6 * k + 3)).toNatClampNeg), .long (((Int32.toInt64 (xs (nI (6 * k + 4)).toNatClampNeg)) <<< (Int32.toInt64 32 &&& 63)) ||| ((Int32.toInt64 (xs (nI (6 * k + 5)).toNatClampNeg)) &&& 4294967295))]) (rest := [.int r]) rfl hl.1 rfl (Nat.le_of_ble_eq_true rfl) dL_law_622 ⟨by simp only [room_1]; omega, by simp only [room_1]; omega⟩) hS (fun H locs hP hS => ?_)
  refine lv_icmp_eq (tgt := 1025) hx hb dL_law_625 (by decide) (fun hc => ?_) (fun hc => absurd rfl hc)
  refine W.widen (k := 189 + 4 * (k + 1)) (n := 11355 + 38 * (k + 1)) (by omega) (by omega) ?_
  exact next nT M2 _ _ hR hP hS
set_option maxRecDepth 100000 in
set_option maxHeartbeats 4000000 in
theorem lw_c12 (Y : LX p s m meth c G cy b L B xs) (HC : S_submit Rl) {nT k : Nat} {M : Mem} {H : Heap} {locs : List Loc} {ls : Array Slot} (hk : 6 * k + 6 ≤ L) (hR : Rl nT M) (hP : Pic G B cy nT M H) (hS : va_S (FB B) s.heap H locs) (hl : lv_has ls 4 [(0, .ref b), (1, .ref (B + 0)), (2, .ref (B + 119)), (3, .int (nI (6 * k)))]) (next : ∀ (nT : Nat) (M : Mem) (H : Heap) (locs : List Loc), Rl nT M → Pic G B cy nT M H → va_S (FB B) s.heap H locs → W p l e room_1 s m #[Value.ref b] below meth c H locs (189 + 4 * (k + 1)) (11355 + 38 * (k + 1)) (lw_Z below #[Value.ref b] s) (F0 m 1025 ls [])) : W p l e room_1 s m #[Value.ref b] below meth c H locs (189 + 4 * k) (11355 + 38 * k) (lw_Z below #[Value.ref b] s) (F0 m 630 ls []) := by
  obtain ⟨X, hO, hX, hbl, hB, hL⟩ := Y
  have hbA : ¬ FB B b := by unfold FB; omega
  obtain ⟨hx, hb, hr, hml, hown, hts, hKn, hlk⟩ := id X
  obtain ⟨r, M1, M2, n1, h8, h9, hR⟩ := HC nT M (xs (nI (6 * k + 1)).toNatClampNeg) hR
  refine lv_aload_n hx hb dL_law_630 rfl (lv_at hl 1 rfl) ?_
  refine lv_aload_n hx hb dL_law_631 rfl (lv_at hl 0 rfl) ?_
  refine lv_iload_n hx hb dL_law_632 rfl (lv_at hl 3 rfl) ?_
  refine lv_iconst (v := 1) hx hb dL_law_633 (by decide) ?_
  refine lv_iadd hx hb dL_law_634 ?_
  refine r_topi (sx_1 (6 * k)) ?_
  refine va_sld hx hb hX hbl hbA hS (vp_in_nI (n := 6 * k + 1) (by omega) (by omega)) dL_law_635 ?_
  refine cl_sub (rn_sub X hO hP (c_X8_submit h8) k_288 k_289 k_290 k_1 k_291 rfl hd_X8_submit (n := 1) ⟨Nat.le_of_ble_eq_true rfl, Nat.le_of_ble_eq_true rfl⟩ (As := [.int (xs (nI (6 * k + 1)).toNatClampNeg)]) (rest := []) rfl hl.1 rfl (Nat.le_of_ble_eq_true rfl) dL_law_636 ⟨by simp only [room_1]; omega, by simp only [room_1]; omega⟩) hS (fun H locs hP hS => ?_)
  refine lv_aload_n hx hb dL_law_639 rfl (lv_at hl 2 rfl) ?_
  refine lv_aload_n hx hb dL_law_640 rfl (lv_at hl 0 rfl) ?_
  refine lv_iload_n hx hb dL_law_641 rfl (lv_at hl 3 rfl) ?_
  refine lv_iconst (v := 1) hx hb dL_law_642 (by decide) ?_
  refine lv_iadd hx hb dL_law_643 ?_
  refine r_topi (sx_1 (6 * k)) ?_
  refine va_sld hx hb hX hbl hbA hS (vp_in_nI (n := 6 * k + 1) (by omega) (by omega)) dL_law_644 ?_
  refine cl_i (rn_V (C := RX9) (ci := 9) X hP (c_X9_submit h9) kq_119 rfl k_710 k_711 k_712 k_9 k_713 rfl hd_X9_submit (n := 1) ⟨⟨rfl, rfl⟩, Nat.le_of_ble_eq_true rfl, Nat.le_of_ble_eq_true rfl⟩ (As := [.int (xs (nI (6 * k + 1)).toNatClampNeg)]) (rest := [.int r]) rfl hl.1 rfl (Nat.le_of_ble_eq_true rfl) dL_law_645 ⟨by simp only [room_1]; omega, by simp only [room_1]; omega⟩) hS (fun H locs hP hS => ?_)
  refine lv_icmp_eq (tgt := 1025) hx hb dL_law_648 (by decide) (fun hc => ?_) (fun hc => absurd rfl hc)
  refine W.widen (k := 189 + 4 * (k + 1)) (n := 11355 + 38 * (k + 1)) (by omega) (by omega) ?_
  exact next n1 M2 _ _ hR hP hS
set_option maxRecDepth 100000 in
set_option maxHeartbeats 4000000 in
theorem lw_c13 (Y : LX p s m meth c G cy b L B xs) (HC : S_window Rl) {nT k : Nat} {M : Mem} {H : Heap} {locs : List Loc} {ls : Array Slot} (hk : 6 * k + 6 ≤ L) (hR : Rl nT M) (hP : Pic G B cy nT M H) (hS : va_S (FB B) s.heap H locs) (hl : lv_has ls 4 [(0, .ref b), (1, .ref (B + 0)), (2, .ref (B + 119)), (3, .int (nI (6 * k)))]) (next : ∀ (nT : Nat) (M : Mem) (H : Heap) (locs : List Loc), Rl nT M → Pic G B cy nT M H → va_S (FB B) s.heap H locs → W p l e room_1 s m #[Value.ref b] below meth c H locs (189 + 4 * (k + 1)) (11355 + 38 * (k + 1)) (lw_Z below #[Value.ref b] s) (F0 m 1025 ls [])) : W p l e room_1 s m #[Value.ref b] below meth c H locs (189 + 4 * k) (11355 + 38 * k) (lw_Z below #[Value.ref b] s) (F0 m 653 ls []) := by
  obtain ⟨X, hO, hX, hbl, hB, hL⟩ := Y
  have hbA : ¬ FB B b := by unfold FB; omega
  obtain ⟨hx, hb, hr, hml, hown, hts, hKn, hlk⟩ := id X
  obtain ⟨r, M1, M2, h8, h9, hR⟩ := HC nT M (xs (nI (6 * k + 1)).toNatClampNeg) hR
  refine lv_aload_n hx hb dL_law_653 rfl (lv_at hl 1 rfl) ?_
  refine lv_aload_n hx hb dL_law_654 rfl (lv_at hl 0 rfl) ?_
  refine lv_iload_n hx hb dL_law_655 rfl (lv_at hl 3 rfl) ?_
  refine lv_iconst (v := 1) hx hb dL_law_656 (by decide) ?_
  refine lv_iadd hx hb dL_law_657 ?_
  refine r_topi (sx_1 (6 * k)) ?_
  refine va_sld hx hb hX hbl hbA hS (vp_in_nI (n := 6 * k + 1) (by omega) (by omega)) dL_law_658 ?_
  refine cl_i (rn_V (C := RX8) (ci := 8) X hP (c_X8_window h8) kq_0 rfl k_329 k_330 k_331 k_1 k_332 rfl hd_X8_window (n := 1) ⟨⟨rfl, rfl⟩, Nat.le_of_ble_eq_true rfl, Nat.le_of_ble_eq_true rfl⟩ (As := [.int (xs (nI (6 * k + 1)).toNatClampNeg)]) (rest := []) rfl hl.1 rfl (Nat.le_of_ble_eq_true rfl) dL_law_659 ⟨by simp only [room_1]; omega, by simp only [room_1]; omega⟩) hS (fun H locs hP hS => ?_)
  refine lv_aload_n hx hb dL_law_662 rfl (lv_at hl 2 rfl) ?_
  refine lv_aload_n hx hb dL_law_663 rfl (lv_at hl 0 rfl) ?_
  refine lv_iload_n hx hb dL_law_664 rfl (lv_at hl 3 rfl) ?_
  refine lv_iconst (v := 1) hx hb dL_law_665 (by decide) ?_
  refine lv_iadd hx hb dL_law_666 ?_
  refine r_topi (sx_1 (6 * k)) ?_
  refine va_sld hx hb hX hbl hbA hS (vp_in_nI (n := 6 * k + 1) (by omega) (by omega)) dL_law_667 ?_
  refine cl_i (rn_V (C := RX9) (ci := 9) X hP (c_X9_window h9) kq_119 rfl k_714 k_715 k_716 k_9 k_717 rfl hd_X9_window (n := 1) ⟨⟨rfl, rfl⟩, Nat.le_of_ble_eq_true rfl, Nat.le_of_ble_eq_true rfl⟩ (As := [.int (xs (nI (6 * k + 1)).toNatClampNeg)]) (rest := [.int r]) rfl hl.1 rfl (Nat.le_of_ble_eq_true rfl) dL_law_668 ⟨by simp only [room_1]; omega, by simp only [room_1]; omega⟩) hS (fun H locs hP hS => ?_)
  refine lv_icmp_eq (tgt := 1025) hx hb dL_law_671 (by decide) (fun hc => ?_) (fun hc => absurd rfl hc)
  refine W.widen (k := 189 + 4 * (k + 1)) (n := 11355 + 38 * (k + 1)) (by omega) (by omega) ?_
  exact next nT M2 _ _ hR hP hS
set_option maxRecDepth 100000 in
set_option maxHeartbeats 4000000 in
theorem lw_c14 (Y : LX p s m meth c G cy b L B xs) (HC : S_run Rl) {nT k : Nat} {M : Mem} {H : Heap} {locs : List Loc} {ls : Array Slot} (hk : 6 * k + 6 ≤ L) (hR : Rl nT M) (hP : Pic G B cy nT M H) (hS : va_S (FB B) s.heap H locs) (hl : lv_has ls 4 [(0, .ref b), (1, .ref (B + 0)), (2, .ref (B + 119)), (3, .int (nI (6 * k)))]) (next : ∀ (nT : Nat) (M : Mem) (H : Heap) (locs : List Loc), Rl nT M → Pic G B cy nT M H → va_S (FB B) s.heap H locs → W p l e room_1 s m #[Value.ref b] below meth c H locs (189 + 4 * (k + 1)) (11355 + 38 * (k + 1)) (lw_Z below #[Value.ref b] s) (F0 m 1025 ls [])) : W p l e room_1 s m #[Value.ref b] below meth c H locs (189 + 4 * k) (11355 + 38 * k) (lw_Z below #[Value.ref b] s) (F0 m 676 ls []) := by
  obtain ⟨X, hO, hX, hbl, hB, hL⟩ := Y
  have hbA : ¬ FB B b := by unfold FB; omega
  obtain ⟨hx, hb, hr, hml, hown, hts, hKn, hlk⟩ := id X
  obtain ⟨r, M1, M2, h8, h9, hR⟩ := HC nT M (xs (nI (6 * k + 1)).toNatClampNeg) hR
  refine lv_aload_n hx hb dL_law_676 rfl (lv_at hl 1 rfl) ?_
  refine lv_aload_n hx hb dL_law_677 rfl (lv_at hl 0 rfl) ?_
  refine lv_iload_n hx hb dL_law_678 rfl (lv_at hl 3 rfl) ?_
  refine lv_iconst (v := 1) hx hb dL_law_679 (by decide) ?_
  refine lv_iadd hx hb dL_law_680 ?_
  refine r_topi (sx_1 (6 * k)) ?_
  refine va_sld hx hb hX hbl hbA hS (vp_in_nI (n := 6 * k + 1) (by omega) (by omega)) dL_law_681 ?_
  refine cl_i (rn_V (C := RX8) (ci := 8) X hP (c_X8_run h8) kq_0 rfl k_333 k_334 k_335 k_1 k_336 rfl hd_X8_run (n := 1) ⟨⟨rfl, rfl⟩, Nat.le_of_ble_eq_true rfl, Nat.le_of_ble_eq_true rfl⟩ (As := [.int (xs (nI (6 * k + 1)).toNatClampNeg)]) (rest := []) rfl hl.1 rfl (Nat.le_of_ble_eq_true rfl) dL_law_682 ⟨by simp only [room_1]; omega, by simp only [room_1]; omega⟩) hS (fun H locs hP hS => ?_)
  refine lv_aload_n hx hb dL_law_685 rfl (lv_at hl 2 rfl) ?_
  refine lv_aload_n hx hb dL_law_686 rfl (lv_at hl 0 rfl) ?_
  refine lv_iload_n hx hb dL_law_687 rfl (lv_at hl 3 rfl) ?_
  refine lv_iconst (v := 1) hx hb dL_law_688 (by decide) ?_
  refine lv_iadd hx hb dL_law_689 ?_
  refine r_topi (sx_1 (6 * k)) ?_
  refine va_sld hx hb hX hbl hbA hS (vp_in_nI (n := 6 * k + 1) (by omega) (by omega)) dL_law_690 ?_
  refine cl_i (rn_V (C := RX9) (ci := 9) X hP (c_X9_run h9) kq_119 rfl k_719 k_720 k_721 k_9 k_722 rfl hd_X9_run (n := 1) ⟨⟨rfl, rfl⟩, Nat.le_of_ble_eq_true rfl, Nat.le_of_ble_eq_true rfl⟩ (As := [.int (xs (nI (6 * k + 1)).toNatClampNeg)]) (rest := [.int r]) rfl hl.1 rfl (Nat.le_of_ble_eq_true rfl) dL_law_691 ⟨by simp only [room_1]; omega, by simp only [room_1]; omega⟩) hS (fun H locs hP hS => ?_)
  refine lv_icmp_eq (tgt := 1025) hx hb dL_law_694 (by decide) (fun hc => ?_) (fun hc => absurd rfl hc)
  refine W.widen (k := 189 + 4 * (k + 1)) (n := 11355 + 38 * (k + 1)) (by omega) (by omega) ?_
  exact next nT M2 _ _ hR hP hS
set_option maxRecDepth 100000 in
set_option maxHeartbeats 4000000 in
theorem lw_c15 (Y : LX p s m meth c G cy b L B xs) (HC : S_ticket Rl) {nT k : Nat} {M : Mem} {H : Heap} {locs : List Loc} {ls : Array Slot} (hk : 6 * k + 6 ≤ L) (hR : Rl nT M) (hP : Pic G B cy nT M H) (hS : va_S (FB B) s.heap H locs) (hl : lv_has ls 4 [(0, .ref b), (1, .ref (B + 0)), (2, .ref (B + 119)), (3, .int (nI (6 * k)))]) (next : ∀ (nT : Nat) (M : Mem) (H : Heap) (locs : List Loc), Rl nT M → Pic G B cy nT M H → va_S (FB B) s.heap H locs → W p l e room_1 s m #[Value.ref b] below meth c H locs (189 + 4 * (k + 1)) (11355 + 38 * (k + 1)) (lw_Z below #[Value.ref b] s) (F0 m 1025 ls [])) : W p l e room_1 s m #[Value.ref b] below meth c H locs (189 + 4 * k) (11355 + 38 * k) (lw_Z below #[Value.ref b] s) (F0 m 699 ls []) := by
  obtain ⟨X, hO, hX, hbl, hB, hL⟩ := Y
  have hbA : ¬ FB B b := by unfold FB; omega
  obtain ⟨hx, hb, hr, hml, hown, hts, hKn, hlk⟩ := id X
  obtain ⟨r, h8, h9⟩ := HC nT M (xs (nI (6 * k + 1)).toNatClampNeg) (xs (nI (6 * k + 2)).toNatClampNeg) hR
  refine lv_aload_n hx hb dL_law_699 rfl (lv_at hl 1 rfl) ?_
  refine lv_aload_n hx hb dL_law_700 rfl (lv_at hl 0 rfl) ?_
  refine lv_iload_n hx hb dL_law_701 rfl (lv_at hl 3 rfl) ?_
  refine lv_iconst (v := 1) hx hb dL_law_702 (by decide) ?_
  refine lv_iadd hx hb dL_law_703 ?_
  refine r_topi (sx_1 (6 * k)) ?_
  refine va_sld hx hb hX hbl hbA hS (vp_in_nI (n := 6 * k + 1) (by omega) (by omega)) dL_law_704 ?_
  refine lv_aload_n hx hb dL_law_705 rfl (lv_at hl 0 rfl) ?_
  refine lv_iload_n hx hb dL_law_706 rfl (lv_at hl 3 rfl) ?_
  refine lv_iconst (v := 2) hx hb dL_law_707 (by decide) ?_
  refine lv_iadd hx hb dL_law_708 ?_
  refine r_topi (sx_2 (6 * k)) ?_
  refine va_sld hx hb hX hbl hbA hS (vp_in_nI (n := 6 * k + 2) (by omega) (by omega)) dL_law_709 ?_
  refine cl_i (rn_V (C := RX8) (ci := 8) X hP (c_X8_ticket h8) kq_0 rfl k_486 k_487 k_488 k_1 k_489 rfl hd_X8_ticket (n := 2) ⟨⟨rfl, rfl⟩, Nat.le_of_ble_eq_true rfl, Nat.le_of_ble_eq_true rfl⟩ (As := [.int (xs (nI (6 * k + 1)).toNatClampNeg), .int (xs (nI (6 * k + 2)).toNatClampNeg)]) (rest := []) rfl hl.1 rfl (Nat.le_of_ble_eq_true rfl) dL_law_710 ⟨by simp only [room_1]; omega, by simp only [room_1]; omega⟩) hS (fun H locs hP hS => ?_)
  refine lv_aload_n hx hb dL_law_713 rfl (lv_at hl 2 rfl) ?_
  refine lv_aload_n hx hb dL_law_714 rfl (lv_at hl 0 rfl) ?_
  refine lv_iload_n hx hb dL_law_715 rfl (lv_at hl 3 rfl) ?_
  refine lv_iconst (v := 1) hx hb dL_law_716 (by decide) ?_
  refine lv_iadd hx hb dL_law_717 ?_
  refine r_topi (sx_1 (6 * k)) ?_
  refine va_sld hx hb hX hbl hbA hS (vp_in_nI (n := 6 * k + 1) (by omega) (by omega)) dL_law_718 ?_
  refine lv_aload_n hx hb dL_law_719 rfl (lv_at hl 0 rfl) ?_
  refine lv_iload_n hx hb dL_law_720 rfl (lv_at hl 3 rfl) ?_
  refine lv_iconst (v := 2) hx hb dL_law_721 (by decide) ?_
  refine lv_iadd hx hb dL_law_722 ?_
  refine r_topi (sx_2 (6 * k)) ?_
  refine va_sld hx hb hX hbl hbA hS (vp_in_nI (n := 6 * k + 2) (by omega) (by omega)) dL_law_723 ?_
  refine cl_i (rn_V (C := RX9) (ci := 9) X hP (c_X9_ticket h9) kq_119 rfl k_818 k_819 k_820 k_9 k_821 rfl hd_X9_ticket (n := 2) ⟨⟨rfl, rfl⟩, Nat.le_of_ble_eq_true rfl, Nat.le_of_ble_eq_true rfl⟩ (As := [.int (xs (nI (6 * k + 1)).toNatClampNeg), .int (xs (nI (6 * k + 2)).toNatClampNeg)]) (rest := [.int r]) rfl hl.1 rfl (Nat.le_of_ble_eq_true rfl) dL_law_724 ⟨by simp only [room_1]; omega, by simp only [room_1]; omega⟩) hS (fun H locs hP hS => ?_)
  refine lv_icmp_eq (tgt := 1025) hx hb dL_law_727 (by decide) (fun hc => ?_) (fun hc => absurd rfl hc)
  refine W.widen (k := 189 + 4 * (k + 1)) (n := 11355 + 38 * (k + 1)) (by omega) (by omega) ?_
  exact next nT M _ _ hR hP hS
set_option maxRecDepth 100000 in
set_option maxHeartbeats 4000000 in
theorem lw_c16 (Y : LX p s m meth c G cy b L B xs) (HC : S_answer Rl) {nT k : Nat} {M : Mem} {H : Heap} {locs : List Loc} {ls : Array Slot} (hk : 6 * k + 6 ≤ L) (hR : Rl nT M) (hP : Pic G B cy nT M H) (hS : va_S (FB B) s.heap H locs) (hl : lv_has ls 4 [(0, .ref b), (1, .ref (B + 0)), (2, .ref (B + 119)), (3, .int (nI (6 * k)))]) (next : ∀ (nT : Nat) (M : Mem) (H : Heap) (locs : List Loc), Rl nT M → Pic G B cy nT M H → va_S (FB B) s.heap H locs → W p l e room_1 s m #[Value.ref b] below meth c H locs (189 + 4 * (k + 1)) (11355 + 38 * (k + 1)) (lw_Z below #[Value.ref b] s) (F0 m 1025 ls [])) : W p l e room_1 s m #[Value.ref b] below meth c H locs (189 + 4 * k) (11355 + 38 * k) (lw_Z below #[Value.ref b] s) (F0 m 732 ls []) := by
  obtain ⟨X, hO, hX, hbl, hB, hL⟩ := Y
  have hbA : ¬ FB B b := by unfold FB; omega
  obtain ⟨hx, hb, hr, hml, hown, hts, hKn, hlk⟩ := id X
  obtain ⟨r, h8, h9⟩ := HC nT M (xs (nI (6 * k + 1)).toNatClampNeg) (xs (nI (6 * k + 2)).toNatClampNeg) hR
  refine lv_aload_n hx hb dL_law_732 rfl (lv_at hl 1 rfl) ?_
  refine lv_aload_n hx hb dL_law_733 rfl (lv_at hl 0 rfl) ?_
  refine lv_iload_n hx hb dL_law_734 rfl (lv_at hl 3 rfl) ?_
  refine lv_iconst (v := 1) hx hb dL_law_735 (by decide) ?_
  refine lv_iadd hx hb dL_law_736 ?_
  refine r_topi (sx_1 (6 * k)) ?_
  refine va_sld hx hb hX hbl hbA hS (vp_in_nI (n := 6 * k + 1) (by omega) (by omega)) dL_law_737 ?_
  refine lv_aload_n hx hb dL_law_738 rfl (lv_at hl 0 rfl) ?_
  refine lv_iload_n hx hb dL_law_739 rfl (lv_at hl 3 rfl) ?_
  refine lv_iconst (v := 2) hx hb dL_law_740 (by decide) ?_
  refine lv_iadd hx hb dL_law_741 ?_
  refine r_topi (sx_2 (6 * k)) ?_
  refine va_sld hx hb hX hbl hbA hS (vp_in_nI (n := 6 * k + 2) (by omega) (by omega)) dL_law_742 ?_
  refine cl_l (rn_V (C := RX8) (ci := 8) X hP (c_X8_answer h8) kq_0 rfl k_493 k_494 k_495 k_1 k_496 rfl hd_X8_answer (n := 2) ⟨⟨rfl, rfl⟩, Nat.le_of_ble_eq_true rfl, Nat.le_of_ble_eq_true rfl⟩ (As := [.int (xs (nI (6 * k + 1)).toNatClampNeg), .int (xs (nI (6 * k + 2)).toNatClampNeg)]) (rest := []) rfl hl.1 rfl (Nat.le_of_ble_eq_true rfl) dL_law_743 ⟨by simp only [room_1]; omega, by simp only [room_1]; omega⟩) hS (fun H locs hP hS => ?_)
  refine lv_aload_n hx hb dL_law_746 rfl (lv_at hl 2 rfl) ?_
  refine lv_aload_n hx hb dL_law_747 rfl (lv_at hl 0 rfl) ?_
  refine lv_iload_n hx hb dL_law_748 rfl (lv_at hl 3 rfl) ?_
  refine lv_iconst (v := 1) hx hb dL_law_749 (by decide) ?_
  refine lv_iadd hx hb dL_law_750 ?_
  refine r_topi (sx_1 (6 * k)) ?_
  refine va_sld hx hb hX hbl hbA hS (vp_in_nI (n := 6 * k + 1) (by omega) (by omega)) dL_law_751 ?_
  refine lv_aload_n hx hb dL_law_752 rfl (lv_at hl 0 rfl) ?_
  refine lv_iload_n hx hb dL_law_753 rfl (lv_at hl 3 rfl) ?_
  refine lv_iconst (v := 2) hx hb dL_law_754 (by decide) ?_
  refine lv_iadd hx hb dL_law_755 ?_
  refine r_topi (sx_2 (6 * k)) ?_
  refine va_sld hx hb hX hbl hbA hS (vp_in_nI (n := 6 * k + 2) (by omega) (by omega)) dL_law_756 ?_
  refine cl_l (rn_V (C := RX9) (ci := 9) X hP (c_X9_answer h9) kq_119 rfl k_825 k_826 k_827 k_9 k_828 rfl hd_X9_answer (n := 2) ⟨⟨rfl, rfl⟩, Nat.le_of_ble_eq_true rfl, Nat.le_of_ble_eq_true rfl⟩ (As := [.int (xs (nI (6 * k + 1)).toNatClampNeg), .int (xs (nI (6 * k + 2)).toNatClampNeg)]) (rest := [.long r]) rfl hl.1 rfl (Nat.le_of_ble_eq_true rfl) dL_law_757 ⟨by simp only [room_1]; omega, by simp only [room_1]; omega⟩) hS (fun H locs hP hS => ?_)
  refine W.lcmp hx hb dL_law_760 ?_
  refine lv_if_eq (tgt := 1025) hx hb dL_law_761 (by decide) (fun hc => ?_) (fun hc => absurd (lc_eq.mpr rfl) hc)
  refine W.widen (k := 189 + 4 * (k + 1)) (n := 11355 + 38 * (k + 1)) (by omega) (by omega) ?_
  exact next nT M _ _ hR hP hS
set_option maxRecDepth 100000 in
set_option maxHeartbeats 4000000 in
theorem lw_c17 (Y : LX p s m meth c G cy b L B xs) (HC : S_tried Rl) {nT k : Nat} {M : Mem} {H : Heap} {locs : List Loc} {ls : Array Slot} (hk : 6 * k + 6 ≤ L) (hR : Rl nT M) (hP : Pic G B cy nT M H) (hS : va_S (FB B) s.heap H locs) (hl : lv_has ls 4 [(0, .ref b), (1, .ref (B + 0)), (2, .ref (B + 119)), (3, .int (nI (6 * k)))]) (next : ∀ (nT : Nat) (M : Mem) (H : Heap) (locs : List Loc), Rl nT M → Pic G B cy nT M H → va_S (FB B) s.heap H locs → W p l e room_1 s m #[Value.ref b] below meth c H locs (189 + 4 * (k + 1)) (11355 + 38 * (k + 1)) (lw_Z below #[Value.ref b] s) (F0 m 1025 ls [])) : W p l e room_1 s m #[Value.ref b] below meth c H locs (189 + 4 * k) (11355 + 38 * k) (lw_Z below #[Value.ref b] s) (F0 m 766 ls []) := by
  obtain ⟨X, hO, hX, hbl, hB, hL⟩ := Y
  have hbA : ¬ FB B b := by unfold FB; omega
  obtain ⟨hx, hb, hr, hml, hown, hts, hKn, hlk⟩ := id X
  obtain ⟨r, h8, h9⟩ := HC nT M (xs (nI (6 * k + 1)).toNatClampNeg) (xs (nI (6 * k + 2)).toNatClampNeg) hR
  refine lv_aload_n hx hb dL_law_766 rfl (lv_at hl 1 rfl) ?_
  refine lv_aload_n hx hb dL_law_767 rfl (lv_at hl 0 rfl) ?_
  refine lv_iload_n hx hb dL_law_768 rfl (lv_at hl 3 rfl) ?_
  refine lv_iconst (v := 1) hx hb dL_law_769 (by decide) ?_
  refine lv_iadd hx hb dL_law_770 ?_
  refine r_topi (sx_1 (6 * k)) ?_
  refine va_sld hx hb hX hbl hbA hS (vp_in_nI (n := 6 * k + 1) (by omega) (by omega)) dL_law_771 ?_
  refine lv_aload_n hx hb dL_law_772 rfl (lv_at hl 0 rfl) ?_
  refine lv_iload_n hx hb dL_law_773 rfl (lv_at hl 3 rfl) ?_
  refine lv_iconst (v := 2) hx hb dL_law_774 (by decide) ?_
  refine lv_iadd hx hb dL_law_775 ?_
  refine r_topi (sx_2 (6 * k)) ?_
  refine va_sld hx hb hX hbl hbA hS (vp_in_nI (n := 6 * k + 2) (by omega) (by omega)) dL_law_776 ?_
  refine cl_i (rn_V (C := RX8) (ci := 8) X hP (c_X8_tried h8) kq_0 rfl k_497 k_498 k_499 k_1 k_500 rfl hd_X8_tried (n := 2) ⟨⟨rfl, rfl⟩, Nat.le_of_ble_eq_true rfl, Nat.le_of_ble_eq_true rfl⟩ (As := [.int (xs (nI (6 * k + 1)).toNatClampNeg), .int (xs (nI (6 * k + 2)).toNatClampNeg)]) (rest := []) rfl hl.1 rfl (Nat.le_of_ble_eq_true rfl) dL_law_777 ⟨by simp only [room_1]; omega, by simp only [room_1]; omega⟩) hS (fun H locs hP hS => ?_)
  refine lv_aload_n hx hb dL_law_780 rfl (lv_at hl 2 rfl) ?_
  refine lv_aload_n hx hb dL_law_781 rfl (lv_at hl 0 rfl) ?_
  refine lv_iload_n hx hb dL_law_782 rfl (lv_at hl 3 rfl) ?_
  refine lv_iconst (v := 1) hx hb dL_law_783 (by decide) ?_
  refine lv_iadd hx hb dL_law_784 ?_
  refine r_topi (sx_1 (6 * k)) ?_
  refine va_sld hx hb hX hbl hbA hS (vp_in_nI (n := 6 * k + 1) (by omega) (by omega)) dL_law_785 ?_
  refine lv_aload_n hx hb dL_law_786 rfl (lv_at hl 0 rfl) ?_
  refine lv_iload_n hx hb dL_law_787 rfl (lv_at hl 3 rfl) ?_
  refine lv_iconst (v := 2) hx hb dL_law_788 (by decide) ?_
  refine lv_iadd hx hb dL_law_789 ?_
  refine r_topi (sx_2 (6 * k)) ?_
  refine va_sld hx hb hX hbl hbA hS (vp_in_nI (n := 6 * k + 2) (by omega) (by omega)) dL_law_790 ?_
  refine cl_i (rn_V (C := RX9) (ci := 9) X hP (c_X9_tried h9) kq_119 rfl k_829 k_830 k_831 k_9 k_832 rfl hd_X9_tried (n := 2) ⟨⟨rfl, rfl⟩, Nat.le_of_ble_eq_true rfl, Nat.le_of_ble_eq_true rfl⟩ (As := [.int (xs (nI (6 * k + 1)).toNatClampNeg), .int (xs (nI (6 * k + 2)).toNatClampNeg)]) (rest := [.int r]) rfl hl.1 rfl (Nat.le_of_ble_eq_true rfl) dL_law_791 ⟨by simp only [room_1]; omega, by simp only [room_1]; omega⟩) hS (fun H locs hP hS => ?_)
  refine lv_icmp_eq (tgt := 1025) hx hb dL_law_794 (by decide) (fun hc => ?_) (fun hc => absurd rfl hc)
  refine W.widen (k := 189 + 4 * (k + 1)) (n := 11355 + 38 * (k + 1)) (by omega) (by omega) ?_
  exact next nT M _ _ hR hP hS
set_option maxRecDepth 100000 in
set_option maxHeartbeats 4000000 in
theorem lw_c18 (Y : LX p s m meth c G cy b L B xs) (HC : S_way Rl) {nT k : Nat} {M : Mem} {H : Heap} {locs : List Loc} {ls : Array Slot} (hk : 6 * k + 6 ≤ L) (hR : Rl nT M) (hP : Pic G B cy nT M H) (hS : va_S (FB B) s.heap H locs) (hl : lv_has ls 4 [(0, .ref b), (1, .ref (B + 0)), (2, .ref (B + 119)), (3, .int (nI (6 * k)))]) (next : ∀ (nT : Nat) (M : Mem) (H : Heap) (locs : List Loc), Rl nT M → Pic G B cy nT M H → va_S (FB B) s.heap H locs → W p l e room_1 s m #[Value.ref b] below meth c H locs (189 + 4 * (k + 1)) (11355 + 38 * (k + 1)) (lw_Z below #[Value.ref b] s) (F0 m 1025 ls [])) : W p l e room_1 s m #[Value.ref b] below meth c H locs (189 + 4 * k) (11355 + 38 * k) (lw_Z below #[Value.ref b] s) (F0 m 799 ls []) := by
  obtain ⟨X, hO, hX, hbl, hB, hL⟩ := Y
  have hbA : ¬ FB B b := by unfold FB; omega
  obtain ⟨hx, hb, hr, hml, hown, hts, hKn, hlk⟩ := id X
  obtain ⟨r, h8, h9⟩ := HC nT M (xs (nI (6 * k + 1)).toNatClampNeg) (xs (nI (6 * k + 2)).toNatClampNeg) (xs (nI (6 * k + 3)).toNatClampNeg) hR
  refine lv_aload_n hx hb dL_law_799 rfl (lv_at hl 1 rfl) ?_
  refine lv_aload_n hx hb dL_law_800 rfl (lv_at hl 0 rfl) ?_
  refine lv_iload_n hx hb dL_law_801 rfl (lv_at hl 3 rfl) ?_
  refine lv_iconst (v := 1) hx hb dL_law_802 (by decide) ?_
  refine lv_iadd hx hb dL_law_803 ?_
  refine r_topi (sx_1 (6 * k)) ?_
  refine va_sld hx hb hX hbl hbA hS (vp_in_nI (n := 6 * k + 1) (by omega) (by omega)) dL_law_804 ?_
  refine lv_aload_n hx hb dL_law_805 rfl (lv_at hl 0 rfl) ?_
  refine lv_iload_n hx hb dL_law_806 rfl (lv_at hl 3 rfl) ?_
  refine lv_iconst (v := 2) hx hb dL_law_807 (by decide) ?_
  refine lv_iadd hx hb dL_law_808 ?_
  refine r_topi (sx_2 (6 * k)) ?_
  refine va_sld hx hb hX hbl hbA hS (vp_in_nI (n := 6 * k + 2) (by omega) (by omega)) dL_law_809 ?_
  refine lv_aload_n hx hb dL_law_810 rfl (lv_at hl 0 rfl) ?_
  refine lv_iload_n hx hb dL_law_811 rfl (lv_at hl 3 rfl) ?_
  refine lv_iconst (v := 3) hx hb dL_law_812 (by decide) ?_
  refine lv_iadd hx hb dL_law_813 ?_
  refine r_topi (sx_3 (6 * k)) ?_
  refine va_sld hx hb hX hbl hbA hS (vp_in_nI (n := 6 * k + 3) (by omega) (by omega)) dL_law_814 ?_
  refine cl_i (rn_V (C := RX8) (ci := 8) X hP (c_X8_way h8) kq_0 rfl k_502 k_503 k_504 k_1 k_505 rfl hd_X8_way (n := 3) ⟨⟨rfl, rfl⟩, Nat.le_of_ble_eq_true rfl, Nat.le_of_ble_eq_true rfl⟩ (As := [.int (xs (nI (6 * k + 1)).toNatClampNeg), .int (xs (nI (6 * k + 2)).toNatClampNeg), .int (xs (nI (6 * k + 3)).toNatClampNeg)]) (rest := []) rfl hl.1 rfl (Nat.le_of_ble_eq_true rfl) dL_law_815 ⟨by simp only [room_1]; omega, by simp only [room_1]; omega⟩) hS (fun H locs hP hS => ?_)
  refine lv_aload_n hx hb dL_law_818 rfl (lv_at hl 2 rfl) ?_
  refine lv_aload_n hx hb dL_law_819 rfl (lv_at hl 0 rfl) ?_
  refine lv_iload_n hx hb dL_law_820 rfl (lv_at hl 3 rfl) ?_
  refine lv_iconst (v := 1) hx hb dL_law_821 (by decide) ?_
  refine lv_iadd hx hb dL_law_822 ?_
  refine r_topi (sx_1 (6 * k)) ?_
  refine va_sld hx hb hX hbl hbA hS (vp_in_nI (n := 6 * k + 1) (by omega) (by omega)) dL_law_823 ?_
  refine lv_aload_n hx hb dL_law_824 rfl (lv_at hl 0 rfl) ?_
  refine lv_iload_n hx hb dL_law_825 rfl (lv_at hl 3 rfl) ?_
  refine lv_iconst (v := 2) hx hb dL_law_826 (by decide) ?_
  refine lv_iadd hx hb dL_law_827 ?_
  refine r_topi (sx_2 (6 * k)) ?_
  refine va_sld hx hb hX hbl hbA hS (vp_in_nI (n := 6 * k + 2) (by omega) (by omega)) dL_law_828 ?_
  refine lv_aload_n hx hb dL_law_829 rfl (lv_at hl 0 rfl) ?_
  refine lv_iload_n hx hb dL_law_830 rfl (lv_at hl 3 rfl) ?_
  refine lv_iconst (v := 3) hx hb dL_law_831 (by decide) ?_
  refine lv_iadd hx hb dL_law_832 ?_
  refine r_topi (sx_3 (6 * k)) ?_
  refine va_sld hx hb hX hbl hbA hS (vp_in_nI (n := 6 * k + 3) (by omega) (by omega)) dL_law_833 ?_
  refine cl_i (rn_V (C := RX9) (ci := 9) X hP (c_X9_way h9) kq_119 rfl k_833 k_834 k_835 k_9 k_836 rfl hd_X9_way (n := 3) ⟨⟨rfl, rfl⟩, Nat.le_of_ble_eq_true rfl, Nat.le_of_ble_eq_true rfl⟩ (As := [.int (xs (nI (6 * k + 1)).toNatClampNeg), .int (xs (nI (6 * k + 2)).toNatClampNeg), .int (xs (nI (6 * k + 3)).toNatClampNeg)]) (rest := [.int r]) rfl hl.1 rfl (Nat.le_of_ble_eq_true rfl) dL_law_834 ⟨by simp only [room_1]; omega, by simp only [room_1]; omega⟩) hS (fun H locs hP hS => ?_)
  refine lv_icmp_eq (tgt := 1025) hx hb dL_law_837 (by decide) (fun hc => ?_) (fun hc => absurd rfl hc)
  refine W.widen (k := 189 + 4 * (k + 1)) (n := 11355 + 38 * (k + 1)) (by omega) (by omega) ?_
  exact next nT M _ _ hR hP hS
set_option maxRecDepth 100000 in
set_option maxHeartbeats 4000000 in
theorem lw_c19 (Y : LX p s m meth c G cy b L B xs) (HC : S_read Rl) {nT k : Nat} {M : Mem} {H : Heap} {locs : List Loc} {ls : Array Slot} (hk : 6 * k + 6 ≤ L) (hR : Rl nT M) (hP : Pic G B cy nT M H) (hS : va_S (FB B) s.heap H locs) (hl : lv_has ls 4 [(0, .ref b), (1, .ref (B + 0)), (2, .ref (B + 119)), (3, .int (nI (6 * k)))]) (next : ∀ (nT : Nat) (M : Mem) (H : Heap) (locs : List Loc), Rl nT M → Pic G B cy nT M H → va_S (FB B) s.heap H locs → W p l e room_1 s m #[Value.ref b] below meth c H locs (189 + 4 * (k + 1)) (11355 + 38 * (k + 1)) (lw_Z below #[Value.ref b] s) (F0 m 1025 ls [])) : W p l e room_1 s m #[Value.ref b] below meth c H locs (189 + 4 * k) (11355 + 38 * k) (lw_Z below #[Value.ref b] s) (F0 m 842 ls []) := by
  obtain ⟨X, hO, hX, hbl, hB, hL⟩ := Y
  have hbA : ¬ FB B b := by unfold FB; omega
  obtain ⟨hx, hb, hr, hml, hown, hts, hKn, hlk⟩ := id X
  obtain ⟨r, h8, h9⟩ := HC nT M (xs (nI (6 * k + 1)).toNatClampNeg) (xs (nI (6 * k + 2)).toNatClampNeg) hR
  refine lv_aload_n hx hb dL_law_842 rfl (lv_at hl 1 rfl) ?_
  refine lv_aload_n hx hb dL_law_843 rfl (lv_at hl 0 rfl) ?_
  refine lv_iload_n hx hb dL_law_844 rfl (lv_at hl 3 rfl) ?_
  refine lv_iconst (v := 1) hx hb dL_law_845 (by decide) ?_
  refine lv_iadd hx hb dL_law_846 ?_
  refine r_topi (sx_1 (6 * k)) ?_
  refine va_sld hx hb hX hbl hbA hS (vp_in_nI (n := 6 * k + 1) (by omega) (by omega)) dL_law_847 ?_
  refine lv_aload_n hx hb dL_law_848 rfl (lv_at hl 0 rfl) ?_
  refine lv_iload_n hx hb dL_law_849 rfl (lv_at hl 3 rfl) ?_
  refine lv_iconst (v := 2) hx hb dL_law_850 (by decide) ?_
  refine lv_iadd hx hb dL_law_851 ?_
  refine r_topi (sx_2 (6 * k)) ?_
  refine va_sld hx hb hX hbl hbA hS (vp_in_nI (n := 6 * k + 2) (by omega) (by omega)) dL_law_852 ?_
  refine cl_i (rn_V (C := RX8) (ci := 8) X hP (c_X8_read h8) kq_0 rfl k_506 k_507 k_508 k_1 k_509 rfl hd_X8_read (n := 2) ⟨⟨rfl, rfl⟩, Nat.le_of_ble_eq_true rfl, Nat.le_of_ble_eq_true rfl⟩ (As := [.int (xs (nI (6 * k + 1)).toNatClampNeg), .int (xs (nI (6 * k + 2)).toNatClampNeg)]) (rest := []) rfl hl.1 rfl (Nat.le_of_ble_eq_true rfl) dL_law_853 ⟨by simp only [room_1]; omega, by simp only [room_1]; omega⟩) hS (fun H locs hP hS => ?_)
  refine lv_aload_n hx hb dL_law_856 rfl (lv_at hl 2 rfl) ?_
  refine lv_aload_n hx hb dL_law_857 rfl (lv_at hl 0 rfl) ?_
  refine lv_iload_n hx hb dL_law_858 rfl (lv_at hl 3 rfl) ?_
  refine lv_iconst (v := 1) hx hb dL_law_859 (by decide) ?_
  refine lv_iadd hx hb dL_law_860 ?_
  refine r_topi (sx_1 (6 * k)) ?_
  refine va_sld hx hb hX hbl hbA hS (vp_in_nI (n := 6 * k + 1) (by omega) (by omega)) dL_law_861 ?_
  refine lv_aload_n hx hb dL_law_862 rfl (lv_at hl 0 rfl) ?_
  refine lv_iload_n hx hb dL_law_863 rfl (lv_at hl 3 rfl) ?_
  refine lv_iconst (v := 2) hx hb dL_law_864 (by decide) ?_
  refine lv_iadd hx hb dL_law_865 ?_
  refine r_topi (sx_2 (6 * k)) ?_
  refine va_sld hx hb hX hbl hbA hS (vp_in_nI (n := 6 * k + 2) (by omega) (by omega)) dL_law_866 ?_
  refine cl_i (rn_V (C := RX9) (ci := 9) X hP (c_X9_read h9) kq_119 rfl k_837 k_838 k_839 k_9 k_840 rfl hd_X9_read (n := 2) ⟨⟨rfl, rfl⟩, Nat.le_of_ble_eq_true rfl, Nat.le_of_ble_eq_true rfl⟩ (As := [.int (xs (nI (6 * k + 1)).toNatClampNeg), .int (xs (nI (6 * k + 2)).toNatClampNeg)]) (rest := [.int r]) rfl hl.1 rfl (Nat.le_of_ble_eq_true rfl) dL_law_867 ⟨by simp only [room_1]; omega, by simp only [room_1]; omega⟩) hS (fun H locs hP hS => ?_)
  refine lv_icmp_eq (tgt := 1025) hx hb dL_law_870 (by decide) (fun hc => ?_) (fun hc => absurd rfl hc)
  refine W.widen (k := 189 + 4 * (k + 1)) (n := 11355 + 38 * (k + 1)) (by omega) (by omega) ?_
  exact next nT M _ _ hR hP hS
set_option maxRecDepth 100000 in
set_option maxHeartbeats 4000000 in
theorem lw_c20 (Y : LX p s m meth c G cy b L B xs) (HC : S_woken Rl) {nT k : Nat} {M : Mem} {H : Heap} {locs : List Loc} {ls : Array Slot} (hk : 6 * k + 6 ≤ L) (hR : Rl nT M) (hP : Pic G B cy nT M H) (hS : va_S (FB B) s.heap H locs) (hl : lv_has ls 4 [(0, .ref b), (1, .ref (B + 0)), (2, .ref (B + 119)), (3, .int (nI (6 * k)))]) (next : ∀ (nT : Nat) (M : Mem) (H : Heap) (locs : List Loc), Rl nT M → Pic G B cy nT M H → va_S (FB B) s.heap H locs → W p l e room_1 s m #[Value.ref b] below meth c H locs (189 + 4 * (k + 1)) (11355 + 38 * (k + 1)) (lw_Z below #[Value.ref b] s) (F0 m 1025 ls [])) : W p l e room_1 s m #[Value.ref b] below meth c H locs (189 + 4 * k) (11355 + 38 * k) (lw_Z below #[Value.ref b] s) (F0 m 875 ls []) := by
  obtain ⟨X, hO, hX, hbl, hB, hL⟩ := Y
  have hbA : ¬ FB B b := by unfold FB; omega
  obtain ⟨hx, hb, hr, hml, hown, hts, hKn, hlk⟩ := id X
  obtain ⟨r, h8, h9⟩ := HC nT M (xs (nI (6 * k + 1)).toNatClampNeg) (xs (nI (6 * k + 2)).toNatClampNeg) hR
  refine lv_aload_n hx hb dL_law_875 rfl (lv_at hl 1 rfl) ?_
  refine lv_aload_n hx hb dL_law_876 rfl (lv_at hl 0 rfl) ?_
  refine lv_iload_n hx hb dL_law_877 rfl (lv_at hl 3 rfl) ?_
  refine lv_iconst (v := 1) hx hb dL_law_878 (by decide) ?_
  refine lv_iadd hx hb dL_law_879 ?_
  refine r_topi (sx_1 (6 * k)) ?_
  refine va_sld hx hb hX hbl hbA hS (vp_in_nI (n := 6 * k + 1) (by omega) (by omega)) dL_law_880 ?_
  refine lv_aload_n hx hb dL_law_881 rfl (lv_at hl 0 rfl) ?_
  refine lv_iload_n hx hb dL_law_882 rfl (lv_at hl 3 rfl) ?_
  refine lv_iconst (v := 2) hx hb dL_law_883 (by decide) ?_
  refine lv_iadd hx hb dL_law_884 ?_
  refine r_topi (sx_2 (6 * k)) ?_
  refine va_sld hx hb hX hbl hbA hS (vp_in_nI (n := 6 * k + 2) (by omega) (by omega)) dL_law_885 ?_
  refine cl_i (rn_V (C := RX8) (ci := 8) X hP (c_X8_woken h8) kq_0 rfl k_510 k_511 k_512 k_1 k_513 rfl hd_X8_woken (n := 2) ⟨⟨rfl, rfl⟩, Nat.le_of_ble_eq_true rfl, Nat.le_of_ble_eq_true rfl⟩ (As := [.int (xs (nI (6 * k + 1)).toNatClampNeg), .int (xs (nI (6 * k + 2)).toNatClampNeg)]) (rest := []) rfl hl.1 rfl (Nat.le_of_ble_eq_true rfl) dL_law_886 ⟨by simp only [room_1]; omega, by simp only [room_1]; omega⟩) hS (fun H locs hP hS => ?_)
  refine lv_aload_n hx hb dL_law_889 rfl (lv_at hl 2 rfl) ?_
  refine lv_aload_n hx hb dL_law_890 rfl (lv_at hl 0 rfl) ?_
  refine lv_iload_n hx hb dL_law_891 rfl (lv_at hl 3 rfl) ?_
  refine lv_iconst (v := 1) hx hb dL_law_892 (by decide) ?_
  refine lv_iadd hx hb dL_law_893 ?_
  refine r_topi (sx_1 (6 * k)) ?_
  refine va_sld hx hb hX hbl hbA hS (vp_in_nI (n := 6 * k + 1) (by omega) (by omega)) dL_law_894 ?_
  refine lv_aload_n hx hb dL_law_895 rfl (lv_at hl 0 rfl) ?_
  refine lv_iload_n hx hb dL_law_896 rfl (lv_at hl 3 rfl) ?_
  refine lv_iconst (v := 2) hx hb dL_law_897 (by decide) ?_
  refine lv_iadd hx hb dL_law_898 ?_
  refine r_topi (sx_2 (6 * k)) ?_
  refine va_sld hx hb hX hbl hbA hS (vp_in_nI (n := 6 * k + 2) (by omega) (by omega)) dL_law_899 ?_
  refine cl_i (rn_V (C := RX9) (ci := 9) X hP (c_X9_woken h9) kq_119 rfl k_841 k_842 k_843 k_9 k_844 rfl hd_X9_woken (n := 2) ⟨⟨rfl, rfl⟩, Nat.le_of_ble_eq_true rfl, Nat.le_of_ble_eq_true rfl⟩ (As := [.int (xs (nI (6 * k + 1)).toNatClampNeg), .int (xs (nI (6 * k + 2)).toNatClampNeg)]) (rest := [.int r]) rfl hl.1 rfl (Nat.le_of_ble_eq_true rfl) dL_law_900 ⟨by simp only [room_1]; omega, by simp only [room_1]; omega⟩) hS (fun H locs hP hS => ?_)
  refine lv_icmp_eq (tgt := 1025) hx hb dL_law_903 (by decide) (fun hc => ?_) (fun hc => absurd rfl hc)
  refine W.widen (k := 189 + 4 * (k + 1)) (n := 11355 + 38 * (k + 1)) (by omega) (by omega) ?_
  exact next nT M _ _ hR hP hS
set_option maxRecDepth 100000 in
set_option maxHeartbeats 4000000 in
theorem lw_c21 (Y : LX p s m meth c G cy b L B xs) (HC : S_order Rl) {nT k : Nat} {M : Mem} {H : Heap} {locs : List Loc} {ls : Array Slot} (hk : 6 * k + 6 ≤ L) (hR : Rl nT M) (hP : Pic G B cy nT M H) (hS : va_S (FB B) s.heap H locs) (hl : lv_has ls 4 [(0, .ref b), (1, .ref (B + 0)), (2, .ref (B + 119)), (3, .int (nI (6 * k)))]) (next : ∀ (nT : Nat) (M : Mem) (H : Heap) (locs : List Loc), Rl nT M → Pic G B cy nT M H → va_S (FB B) s.heap H locs → W p l e room_1 s m #[Value.ref b] below meth c H locs (189 + 4 * (k + 1)) (11355 + 38 * (k + 1)) (lw_Z below #[Value.ref b] s) (F0 m 1025 ls [])) : W p l e room_1 s m #[Value.ref b] below meth c H locs (189 + 4 * k) (11355 + 38 * k) (lw_Z below #[Value.ref b] s) (F0 m 908 ls []) := by
  obtain ⟨X, hO, hX, hbl, hB, hL⟩ := Y
  have hbA : ¬ FB B b := by unfold FB; omega
  obtain ⟨hx, hb, hr, hml, hown, hts, hKn, hlk⟩ := id X
  obtain ⟨r, h8, h9⟩ := HC nT M (xs (nI (6 * k + 1)).toNatClampNeg) hR
  refine lv_aload_n hx hb dL_law_908 rfl (lv_at hl 1 rfl) ?_
  refine lv_aload_n hx hb dL_law_909 rfl (lv_at hl 0 rfl) ?_
  refine lv_iload_n hx hb dL_law_910 rfl (lv_at hl 3 rfl) ?_
  refine lv_iconst (v := 1) hx hb dL_law_911 (by decide) ?_
  refine lv_iadd hx hb dL_law_912 ?_
  refine r_topi (sx_1 (6 * k)) ?_
  refine va_sld hx hb hX hbl hbA hS (vp_in_nI (n := 6 * k + 1) (by omega) (by omega)) dL_law_913 ?_
  refine cl_i (rn_V (C := RX8) (ci := 8) X hP (c_X8_order h8) kq_0 rfl k_514 k_515 k_516 k_1 k_517 rfl hd_X8_order (n := 1) ⟨⟨rfl, rfl⟩, Nat.le_of_ble_eq_true rfl, Nat.le_of_ble_eq_true rfl⟩ (As := [.int (xs (nI (6 * k + 1)).toNatClampNeg)]) (rest := []) rfl hl.1 rfl (Nat.le_of_ble_eq_true rfl) dL_law_914 ⟨by simp only [room_1]; omega, by simp only [room_1]; omega⟩) hS (fun H locs hP hS => ?_)
  refine lv_aload_n hx hb dL_law_917 rfl (lv_at hl 2 rfl) ?_
  refine lv_aload_n hx hb dL_law_918 rfl (lv_at hl 0 rfl) ?_
  refine lv_iload_n hx hb dL_law_919 rfl (lv_at hl 3 rfl) ?_
  refine lv_iconst (v := 1) hx hb dL_law_920 (by decide) ?_
  refine lv_iadd hx hb dL_law_921 ?_
  refine r_topi (sx_1 (6 * k)) ?_
  refine va_sld hx hb hX hbl hbA hS (vp_in_nI (n := 6 * k + 1) (by omega) (by omega)) dL_law_922 ?_
  refine cl_i (rn_V (C := RX9) (ci := 9) X hP (c_X9_order h9) kq_119 rfl k_845 k_846 k_847 k_9 k_848 rfl hd_X9_order (n := 1) ⟨⟨rfl, rfl⟩, Nat.le_of_ble_eq_true rfl, Nat.le_of_ble_eq_true rfl⟩ (As := [.int (xs (nI (6 * k + 1)).toNatClampNeg)]) (rest := [.int r]) rfl hl.1 rfl (Nat.le_of_ble_eq_true rfl) dL_law_923 ⟨by simp only [room_1]; omega, by simp only [room_1]; omega⟩) hS (fun H locs hP hS => ?_)
  refine lv_icmp_eq (tgt := 1025) hx hb dL_law_926 (by decide) (fun hc => ?_) (fun hc => absurd rfl hc)
  refine W.widen (k := 189 + 4 * (k + 1)) (n := 11355 + 38 * (k + 1)) (by omega) (by omega) ?_
  exact next nT M _ _ hR hP hS
set_option maxRecDepth 100000 in
set_option maxHeartbeats 4000000 in
theorem lw_c22 (Y : LX p s m meth c G cy b L B xs) (HC : S_note Rl) {nT k : Nat} {M : Mem} {H : Heap} {locs : List Loc} {ls : Array Slot} (hk : 6 * k + 6 ≤ L) (hR : Rl nT M) (hP : Pic G B cy nT M H) (hS : va_S (FB B) s.heap H locs) (hl : lv_has ls 4 [(0, .ref b), (1, .ref (B + 0)), (2, .ref (B + 119)), (3, .int (nI (6 * k)))]) (next : ∀ (nT : Nat) (M : Mem) (H : Heap) (locs : List Loc), Rl nT M → Pic G B cy nT M H → va_S (FB B) s.heap H locs → W p l e room_1 s m #[Value.ref b] below meth c H locs (189 + 4 * (k + 1)) (11355 + 38 * (k + 1)) (lw_Z below #[Value.ref b] s) (F0 m 1025 ls [])) : W p l e room_1 s m #[Value.ref b] below meth c H locs (189 + 4 * k) (11355 + 38 * k) (lw_Z below #[Value.ref b] s) (F0 m 931 ls []) := by
  obtain ⟨X, hO, hX, hbl, hB, hL⟩ := Y
  have hbA : ¬ FB B b := by unfold FB; omega
  obtain ⟨hx, hb, hr, hml, hown, hts, hKn, hlk⟩ := id X
  obtain ⟨r, h8, h9⟩ := HC nT M (xs (nI (6 * k + 1)).toNatClampNeg) (xs (nI (6 * k + 2)).toNatClampNeg) hR
  refine lv_aload_n hx hb dL_law_931 rfl (lv_at hl 1 rfl) ?_
  refine lv_aload_n hx hb dL_law_932 rfl (lv_at hl 0 rfl) ?_
  refine lv_iload_n hx hb dL_law_933 rfl (lv_at hl 3 rfl) ?_
  refine lv_iconst (v := 1) hx hb dL_law_934 (by decide) ?_
  refine lv_iadd hx hb dL_law_935 ?_
  refine r_topi (sx_1 (6 * k)) ?_
  refine va_sld hx hb hX hbl hbA hS (vp_in_nI (n := 6 * k + 1) (by omega) (by omega)) dL_law_936 ?_
  refine lv_aload_n hx hb dL_law_937 rfl (lv_at hl 0 rfl) ?_
  refine lv_iload_n hx hb dL_law_938 rfl (lv_at hl 3 rfl) ?_
  refine lv_iconst (v := 2) hx hb dL_law_939 (by decide) ?_
  refine lv_iadd hx hb dL_law_940 ?_
  refine r_topi (sx_2 (6 * k)) ?_
  refine va_sld hx hb hX hbl hbA hS (vp_in_nI (n := 6 * k + 2) (by omega) (by omega)) dL_law_941 ?_
  refine cl_i (rn_V (C := RX8) (ci := 8) X hP (c_X8_note h8) kq_0 rfl k_518 k_519 k_520 k_1 k_521 rfl hd_X8_note (n := 2) ⟨⟨rfl, rfl⟩, Nat.le_of_ble_eq_true rfl, Nat.le_of_ble_eq_true rfl⟩ (As := [.int (xs (nI (6 * k + 1)).toNatClampNeg), .int (xs (nI (6 * k + 2)).toNatClampNeg)]) (rest := []) rfl hl.1 rfl (Nat.le_of_ble_eq_true rfl) dL_law_942 ⟨by simp only [room_1]; omega, by simp only [room_1]; omega⟩) hS (fun H locs hP hS => ?_)
  refine lv_aload_n hx hb dL_law_945 rfl (lv_at hl 2 rfl) ?_
  refine lv_aload_n hx hb dL_law_946 rfl (lv_at hl 0 rfl) ?_
  refine lv_iload_n hx hb dL_law_947 rfl (lv_at hl 3 rfl) ?_
  refine lv_iconst (v := 1) hx hb dL_law_948 (by decide) ?_
  refine lv_iadd hx hb dL_law_949 ?_
  refine r_topi (sx_1 (6 * k)) ?_
  refine va_sld hx hb hX hbl hbA hS (vp_in_nI (n := 6 * k + 1) (by omega) (by omega)) dL_law_950 ?_
  refine lv_aload_n hx hb dL_law_951 rfl (lv_at hl 0 rfl) ?_
  refine lv_iload_n hx hb dL_law_952 rfl (lv_at hl 3 rfl) ?_
  refine lv_iconst (v := 2) hx hb dL_law_953 (by decide) ?_
  refine lv_iadd hx hb dL_law_954 ?_
  refine r_topi (sx_2 (6 * k)) ?_
  refine va_sld hx hb hX hbl hbA hS (vp_in_nI (n := 6 * k + 2) (by omega) (by omega)) dL_law_955 ?_
  refine cl_i (rn_V (C := RX9) (ci := 9) X hP (c_X9_note h9) kq_119 rfl k_849 k_850 k_851 k_9 k_852 rfl hd_X9_note (n := 2) ⟨⟨rfl, rfl⟩, Nat.le_of_ble_eq_true rfl, Nat.le_of_ble_eq_true rfl⟩ (As := [.int (xs (nI (6 * k + 1)).toNatClampNeg), .int (xs (nI (6 * k + 2)).toNatClampNeg)]) (rest := [.int r]) rfl hl.1 rfl (Nat.le_of_ble_eq_true rfl) dL_law_956 ⟨by simp only [room_1]; omega, by simp only [room_1]; omega⟩) hS (fun H locs hP hS => ?_)
  refine lv_icmp_eq (tgt := 1025) hx hb dL_law_959 (by decide) (fun hc => ?_) (fun hc => absurd rfl hc)
  refine W.widen (k := 189 + 4 * (k + 1)) (n := 11355 + 38 * (k + 1)) (by omega) (by omega) ?_
  exact next nT M _ _ hR hP hS
set_option maxRecDepth 100000 in
set_option maxHeartbeats 4000000 in
theorem lw_c23 (Y : LX p s m meth c G cy b L B xs) (HC : S_noted Rl) {nT k : Nat} {M : Mem} {H : Heap} {locs : List Loc} {ls : Array Slot} (hk : 6 * k + 6 ≤ L) (hR : Rl nT M) (hP : Pic G B cy nT M H) (hS : va_S (FB B) s.heap H locs) (hl : lv_has ls 4 [(0, .ref b), (1, .ref (B + 0)), (2, .ref (B + 119)), (3, .int (nI (6 * k)))]) (next : ∀ (nT : Nat) (M : Mem) (H : Heap) (locs : List Loc), Rl nT M → Pic G B cy nT M H → va_S (FB B) s.heap H locs → W p l e room_1 s m #[Value.ref b] below meth c H locs (189 + 4 * (k + 1)) (11355 + 38 * (k + 1)) (lw_Z below #[Value.ref b] s) (F0 m 1025 ls [])) : W p l e room_1 s m #[Value.ref b] below meth c H locs (189 + 4 * k) (11355 + 38 * k) (lw_Z below #[Value.ref b] s) (F0 m 964 ls []) := by
  obtain ⟨X, hO, hX, hbl, hB, hL⟩ := Y
  have hbA : ¬ FB B b := by unfold FB; omega
  obtain ⟨hx, hb, hr, hml, hown, hts, hKn, hlk⟩ := id X
  obtain ⟨r, h8, h9⟩ := HC nT M (xs (nI (6 * k + 1)).toNatClampNeg) hR
  refine lv_aload_n hx hb dL_law_964 rfl (lv_at hl 1 rfl) ?_
  refine lv_aload_n hx hb dL_law_965 rfl (lv_at hl 0 rfl) ?_
  refine lv_iload_n hx hb dL_law_966 rfl (lv_at hl 3 rfl) ?_
  refine lv_iconst (v := 1) hx hb dL_law_967 (by decide) ?_
  refine lv_iadd hx hb dL_law_968 ?_
  refine r_topi (sx_1 (6 * k)) ?_
  refine va_sld hx hb hX hbl hbA hS (vp_in_nI (n := 6 * k + 1) (by omega) (by omega)) dL_law_969 ?_
  refine cl_l (rn_V (C := RX8) (ci := 8) X hP (c_X8_noted h8) kq_0 rfl k_526 k_527 k_528 k_1 k_529 rfl hd_X8_noted (n := 1) ⟨⟨rfl, rfl⟩, Nat.le_of_ble_eq_true rfl, Nat.le_of_ble_eq_true rfl⟩ (As := [.int (xs (nI (6 * k + 1)).toNatClampNeg)]) (rest := []) rfl hl.1 rfl (Nat.le_of_ble_eq_true rfl) dL_law_970 ⟨by simp only [room_1]; omega, by simp only [room_1]; omega⟩) hS (fun H locs hP hS => ?_)
  refine lv_aload_n hx hb dL_law_973 rfl (lv_at hl 2 rfl) ?_
  refine lv_aload_n hx hb dL_law_974 rfl (lv_at hl 0 rfl) ?_
  refine lv_iload_n hx hb dL_law_975 rfl (lv_at hl 3 rfl) ?_
  refine lv_iconst (v := 1) hx hb dL_law_976 (by decide) ?_
  refine lv_iadd hx hb dL_law_977 ?_
  refine r_topi (sx_1 (6 * k)) ?_
  refine va_sld hx hb hX hbl hbA hS (vp_in_nI (n := 6 * k + 1) (by omega) (by omega)) dL_law_978 ?_
  refine cl_l (rn_V (C := RX9) (ci := 9) X hP (c_X9_noted h9) kq_119 rfl k_856 k_857 k_858 k_9 k_859 rfl hd_X9_noted (n := 1) ⟨⟨rfl, rfl⟩, Nat.le_of_ble_eq_true rfl, Nat.le_of_ble_eq_true rfl⟩ (As := [.int (xs (nI (6 * k + 1)).toNatClampNeg)]) (rest := [.long r]) rfl hl.1 rfl (Nat.le_of_ble_eq_true rfl) dL_law_979 ⟨by simp only [room_1]; omega, by simp only [room_1]; omega⟩) hS (fun H locs hP hS => ?_)
  refine W.lcmp hx hb dL_law_982 ?_
  refine lv_if_eq (tgt := 1025) hx hb dL_law_983 (by decide) (fun hc => ?_) (fun hc => absurd (lc_eq.mpr rfl) hc)
  refine W.widen (k := 189 + 4 * (k + 1)) (n := 11355 + 38 * (k + 1)) (by omega) (by omega) ?_
  exact next nT M _ _ hR hP hS
set_option maxRecDepth 100000 in
set_option maxHeartbeats 4000000 in
theorem lw_c24 (Y : LX p s m meth c G cy b L B xs) (HC : S_count Rl) {nT k : Nat} {M : Mem} {H : Heap} {locs : List Loc} {ls : Array Slot} (hk : 6 * k + 6 ≤ L) (hR : Rl nT M) (hP : Pic G B cy nT M H) (hS : va_S (FB B) s.heap H locs) (hl : lv_has ls 4 [(0, .ref b), (1, .ref (B + 0)), (2, .ref (B + 119)), (3, .int (nI (6 * k)))]) (next : ∀ (nT : Nat) (M : Mem) (H : Heap) (locs : List Loc), Rl nT M → Pic G B cy nT M H → va_S (FB B) s.heap H locs → W p l e room_1 s m #[Value.ref b] below meth c H locs (189 + 4 * (k + 1)) (11355 + 38 * (k + 1)) (lw_Z below #[Value.ref b] s) (F0 m 1025 ls [])) : W p l e room_1 s m #[Value.ref b] below meth c H locs (189 + 4 * k) (11355 + 38 * k) (lw_Z below #[Value.ref b] s) (F0 m 988 ls []) := by
  obtain ⟨X, hO, hX, hbl, hB, hL⟩ := Y
  have hbA : ¬ FB B b := by unfold FB; omega
  obtain ⟨hx, hb, hr, hml, hown, hts, hKn, hlk⟩ := id X
  obtain ⟨r, h8, h9⟩ := HC nT M (xs (nI (6 * k + 1)).toNatClampNeg) hR
  refine lv_aload_n hx hb dL_law_988 rfl (lv_at hl 1 rfl) ?_
  refine lv_aload_n hx hb dL_law_989 rfl (lv_at hl 0 rfl) ?_
  refine lv_iload_n hx hb dL_law_990 rfl (lv_at hl 3 rfl) ?_
  refine lv_iconst (v := 1) hx hb dL_law_991 (by decide) ?_
  refine lv_iadd hx hb dL_law_992 ?_
  refine r_topi (sx_1 (6 * k)) ?_
  refine va_sld hx hb hX hbl hbA hS (vp_in_nI (n := 6 * k + 1) (by omega) (by omega)) dL_law_993 ?_
  refine cl_i (rn_V (C := RX8) (ci := 8) X hP (c_X8_count h8) kq_0 rfl k_530 k_531 k_532 k_1 k_533 rfl hd_X8_count (n := 1) ⟨⟨rfl, rfl⟩, Nat.le_of_ble_eq_true rfl, Nat.le_of_ble_eq_true rfl⟩ (As := [.int (xs (nI (6 * k + 1)).toNatClampNeg)]) (rest := []) rfl hl.1 rfl (Nat.le_of_ble_eq_true rfl) dL_law_994 ⟨by simp only [room_1]; omega, by simp only [room_1]; omega⟩) hS (fun H locs hP hS => ?_)
  refine lv_aload_n hx hb dL_law_997 rfl (lv_at hl 2 rfl) ?_
  refine lv_aload_n hx hb dL_law_998 rfl (lv_at hl 0 rfl) ?_
  refine lv_iload_n hx hb dL_law_999 rfl (lv_at hl 3 rfl) ?_
  refine lv_iconst (v := 1) hx hb dL_law_1000 (by decide) ?_
  refine lv_iadd hx hb dL_law_1001 ?_
  refine r_topi (sx_1 (6 * k)) ?_
  refine va_sld hx hb hX hbl hbA hS (vp_in_nI (n := 6 * k + 1) (by omega) (by omega)) dL_law_1002 ?_
  refine cl_i (rn_V (C := RX9) (ci := 9) X hP (c_X9_count h9) kq_119 rfl k_860 k_861 k_862 k_9 k_863 rfl hd_X9_count (n := 1) ⟨⟨rfl, rfl⟩, Nat.le_of_ble_eq_true rfl, Nat.le_of_ble_eq_true rfl⟩ (As := [.int (xs (nI (6 * k + 1)).toNatClampNeg)]) (rest := [.int r]) rfl hl.1 rfl (Nat.le_of_ble_eq_true rfl) dL_law_1003 ⟨by simp only [room_1]; omega, by simp only [room_1]; omega⟩) hS (fun H locs hP hS => ?_)
  refine lv_icmp_eq (tgt := 1025) hx hb dL_law_1006 (by decide) (fun hc => ?_) (fun hc => absurd rfl hc)
  refine W.widen (k := 189 + 4 * (k + 1)) (n := 11355 + 38 * (k + 1)) (by omega) (by omega) ?_
  exact next nT M _ _ hR hP hS
set_option maxRecDepth 100000 in
set_option maxHeartbeats 4000000 in
theorem lw_c25 (Y : LX p s m meth c G cy b L B xs) (HC : S_digest Rl) {nT k : Nat} {M : Mem} {H : Heap} {locs : List Loc} {ls : Array Slot} (hk : 6 * k + 6 ≤ L) (hR : Rl nT M) (hP : Pic G B cy nT M H) (hS : va_S (FB B) s.heap H locs) (hl : lv_has ls 4 [(0, .ref b), (1, .ref (B + 0)), (2, .ref (B + 119)), (3, .int (nI (6 * k)))]) (next : ∀ (nT : Nat) (M : Mem) (H : Heap) (locs : List Loc), Rl nT M → Pic G B cy nT M H → va_S (FB B) s.heap H locs → W p l e room_1 s m #[Value.ref b] below meth c H locs (189 + 4 * (k + 1)) (11355 + 38 * (k + 1)) (lw_Z below #[Value.ref b] s) (F0 m 1025 ls [])) : W p l e room_1 s m #[Value.ref b] below meth c H locs (189 + 4 * k) (11355 + 38 * k) (lw_Z below #[Value.ref b] s) (F0 m 1011 ls []) := by
  obtain ⟨X, hO, hX, hbl, hB, hL⟩ := Y
  have hbA : ¬ FB B b := by unfold FB; omega
  obtain ⟨hx, hb, hr, hml, hown, hts, hKn, hlk⟩ := id X
  obtain ⟨r, h8, h9⟩ := HC nT M hR
  refine lv_aload_n hx hb dL_law_1011 rfl (lv_at hl 1 rfl) ?_
  refine cl_l (rn_V (C := RX8) (ci := 8) X hP (c_X8_digest h8) kq_0 rfl k_537 k_538 k_539 k_1 k_540 rfl hd_X8_digest (n := 0) ⟨⟨rfl, rfl⟩, Nat.le_of_ble_eq_true rfl, Nat.le_of_ble_eq_true rfl⟩ (As := []) (rest := []) rfl hl.1 rfl (Nat.le_of_ble_eq_true rfl) dL_law_1012 ⟨by simp only [room_1]; omega, by simp only [room_1]; omega⟩) hS (fun H locs hP hS => ?_)
  refine lv_aload_n hx hb dL_law_1015 rfl (lv_at hl 2 rfl) ?_
  refine cl_l (rn_V (C := RX9) (ci := 9) X hP (c_X9_digest h9) kq_119 rfl k_864 k_865 k_866 k_9 k_867 rfl hd_X9_digest (n := 0) ⟨⟨rfl, rfl⟩, Nat.le_of_ble_eq_true rfl, Nat.le_of_ble_eq_true rfl⟩ (As := []) (rest := [.long r]) rfl hl.1 rfl (Nat.le_of_ble_eq_true rfl) dL_law_1016 ⟨by simp only [room_1]; omega, by simp only [room_1]; omega⟩) hS (fun H locs hP hS => ?_)
  refine W.lcmp hx hb dL_law_1019 ?_
  refine lv_if_eq (tgt := 1025) hx hb dL_law_1020 (by decide) (fun hc => ?_) (fun hc => absurd (lc_eq.mpr rfl) hc)
  refine W.widen (k := 189 + 4 * (k + 1)) (n := 11355 + 38 * (k + 1)) (by omega) (by omega) ?_
  exact next nT M _ _ hR hP hS
set_option maxRecDepth 100000 in
set_option maxHeartbeats 4000000 in
theorem lw_loop (Y : LX p s m meth c G cy b L B xs) (HC : Calls Rl) : ∀ (n k : Nat), 6 * k ≤ L → L < 6 * (k + n) → ∀ (nT : Nat) (M : Mem) (H : Heap) (locs : List Loc) (ls : Array Slot), Rl nT M → Pic G B cy nT M H → va_S (FB B) s.heap H locs → lv_has ls 4 [(0, .ref b), (1, .ref (B + 0)), (2, .ref (B + 119)), (3, .int (nI (6 * k)))] → W p l e room_1 s m #[Value.ref b] below meth c H locs (189 + 4 * k) (11355 + 38 * k) (lw_Z below #[Value.ref b] s) (F0 m 18 ls []) := by
  have Y0 := Y
  obtain ⟨X, hO, hX, hbl, hB, hL⟩ := Y0
  have hbA : ¬ FB B b := by unfold FB; omega
  obtain ⟨hx, hb, hr, hml, hown, hts, hKn, hlk⟩ := id X
  intro n
  induction n with
  | zero => intro k h1 h2; exact absurd h2 (by omega)
  | succ n ih =>
    intro k hk hn nT M H locs ls hR hP hS hl
    refine lv_iload_n hx hb dL_law_18 rfl (lv_at hl 3 rfl) ?_
    refine lv_aload_n hx hb dL_law_19 rfl (lv_at hl 0 rfl) ?_
    refine va_slen hx hb hX hbl hbA hS dL_law_20 ?_
    refine lv_bipush (v := 6) hx hb dL_law_21 (by decide) ?_
    refine lv_isub hx hb dL_law_23 ?_
    have hcmp : nI L - 6 < nI (6 * k) ↔ L < 6 * k + 6 := by
      rw [show (6 : Int32) = nI 6 from rfl, Int32.lt_iff_toInt_lt, nI_toInt (by omega), pk_sub_toInt (by omega) (by omega)]
      omega
    refine lv_icmp_gt (tgt := 1031) hx hb dL_law_24 (by decide) (fun hc => ?_) (fun hc => ?_)
    · refine lv_iconst (v := 1) hx hb dL_law_1031 (by decide) ?_
      refine va_forget (fun q hq => by have := hS.2.2 q hq; unfold FB at this; omega) ?_
      refine W.widen (k := 600000) (n := 7302249) (by omega) (by omega) ?_
      exact lw_ret hx hb hr hlk dL_law_1032
    · have hk6 : 6 * k + 6 ≤ L := by
        rcases Nat.lt_or_ge L (6 * k + 6) with z | z
        · exact absurd (hcmp.mpr z) hc
        · exact z
      refine lv_aload_n hx hb dL_law_27 rfl (lv_at hl 0 rfl) ?_
      refine lv_iload_n hx hb dL_law_28 rfl (lv_at hl 3 rfl) ?_
      refine va_sld hx hb hX hbl hbA hS (vp_in_nI (n := 6 * k) (by omega) (by omega)) dL_law_29 ?_
      refine lv_bipush (v := 31) hx hb dL_law_30 (by decide) ?_
      refine lv_iand hx hb dL_law_32 ?_
      have nxt : ∀ (nT : Nat) (M : Mem) (H : Heap) (locs : List Loc), Rl nT M → Pic G B cy nT M H → va_S (FB B) s.heap H locs → W p l e room_1 s m #[Value.ref b] below meth c H locs (189 + 4 * (k + 1)) (11355 + 38 * (k + 1)) (lw_Z below #[Value.ref b] s) (F0 m 1025 ls []) := by
        intro nT M H locs hR hP hS
        refine lv_iinc (v := nI (6 * (k + 1))) (lv' := [(3, .int (nI (6 * (k + 1)))), (0, .ref b), (1, .ref (B + 0)), (2, .ref (B + 119))]) hx hb dL_law_1025 hl (k := 3) rfl (by rw [show 6 * (k + 1) = 6 * k + 6 by omega, ← nI_add]; rfl) (by decide) rfl (fun ls hl => ?_)
        refine lv_goto (tgt := 18) hx hb dL_law_1028 (by decide) ?_
        exact ih (k + 1) (by omega) (by omega) nT M _ _ _ hR hP hS (lv_sub hl [1, 2, 3, 0] rfl)
      by_cases z0 : ((xs (nI (6 * k)).toNatClampNeg) &&& 31) = 0
      · refine lv_tableIn (off := 119) (tgt := 152) hx hb dL_law_33 (by rw [z0]; decide) (by rw [z0]; decide) (by rw [z0]; rfl) (by decide) ?_
        exact lw_c0 Y (HC.1) hk6 hR hP hS hl nxt
      · skip
        by_cases z1 : ((xs (nI (6 * k)).toNatClampNeg) &&& 31) = 1
        · refine lv_tableIn (off := 182) (tgt := 215) hx hb dL_law_33 (by rw [z1]; decide) (by rw [z1]; decide) (by rw [z1]; rfl) (by decide) ?_
          exact lw_c1 Y (HC.2.1) hk6 hR hP hS hl nxt
        · skip
          by_cases z2 : ((xs (nI (6 * k)).toNatClampNeg) &&& 31) = 2
          · refine lv_tableIn (off := 235) (tgt := 268) hx hb dL_law_33 (by rw [z2]; decide) (by rw [z2]; decide) (by rw [z2]; rfl) (by decide) ?_
            exact lw_c2 Y (HC.2.2.1) hk6 hR hP hS hl nxt
          · skip
            by_cases z3 : ((xs (nI (6 * k)).toNatClampNeg) &&& 31) = 3
            · refine lv_tableIn (off := 258) (tgt := 291) hx hb dL_law_33 (by rw [z3]; decide) (by rw [z3]; decide) (by rw [z3]; rfl) (by decide) ?_
              exact lw_c3 Y (HC.2.2.2.1) hk6 hR hP hS hl nxt
            · skip
              by_cases z4 : ((xs (nI (6 * k)).toNatClampNeg) &&& 31) = 4
              · refine lv_tableIn (off := 281) (tgt := 314) hx hb dL_law_33 (by rw [z4]; decide) (by rw [z4]; decide) (by rw [z4]; rfl) (by decide) ?_
                exact lw_c4 Y (HC.2.2.2.2.1) hk6 hR hP hS hl nxt
              · skip
                by_cases z5 : ((xs (nI (6 * k)).toNatClampNeg) &&& 31) = 5
                · refine lv_tableIn (off := 305) (tgt := 338) hx hb dL_law_33 (by rw [z5]; decide) (by rw [z5]; decide) (by rw [z5]; rfl) (by decide) ?_
                  exact lw_c5 Y (HC.2.2.2.2.2.1) hk6 hR hP hS hl nxt
                · skip
                  by_cases z6 : ((xs (nI (6 * k)).toNatClampNeg) &&& 31) = 6
                  · refine lv_tableIn (off := 338) (tgt := 371) hx hb dL_law_33 (by rw [z6]; decide) (by rw [z6]; decide) (by rw [z6]; rfl) (by decide) ?_
                    exact lw_c6 Y (HC.2.2.2.2.2.2.1) hk6 hR hP hS hl nxt
                  · skip
                    by_cases z7 : ((xs (nI (6 * k)).toNatClampNeg) &&& 31) = 7
                    · refine lv_tableIn (off := 371) (tgt := 404) hx hb dL_law_33 (by rw [z7]; decide) (by rw [z7]; decide) (by rw [z7]; rfl) (by decide) ?_
                      exact lw_c7 Y (HC.2.2.2.2.2.2.2.1) hk6 hR hP hS hl nxt
                    · skip
                      by_cases z8 : ((xs (nI (6 * k)).toNatClampNeg) &&& 31) = 8
                      · refine lv_tableIn (off := 405) (tgt := 438) hx hb dL_law_33 (by rw [z8]; decide) (by rw [z8]; decide) (by rw [z8]; rfl) (by decide) ?_
                        exact lw_c8 Y (HC.2.2.2.2.2.2.2.2.1) hk6 hR hP hS hl nxt
                      · skip
                        by_cases z9 : ((xs (nI (6 * k)).toNatClampNeg) &&& 31) = 9
                        · refine lv_tableIn (off := 458) (tgt := 491) hx hb dL_law_33 (by rw [z9]; decide) (by rw [z9]; decide) (by rw [z9]; rfl) (by decide) ?_
                          exact lw_c9 Y (HC.2.2.2.2.2.2.2.2.2.1) hk6 hR hP hS hl nxt
                        · skip
                          by_cases z10 : ((xs (nI (6 * k)).toNatClampNeg) &&& 31) = 10
                          · refine lv_tableIn (off := 481) (tgt := 514) hx hb dL_law_33 (by rw [z10]; decide) (by rw [z10]; decide) (by rw [z10]; rfl) (by decide) ?_
                            exact lw_c10 Y (HC.2.2.2.2.2.2.2.2.2.2.1) hk6 hR hP hS hl nxt
                          · skip
                            by_cases z11 : ((xs (nI (6 * k)).toNatClampNeg) &&& 31) = 11
                            · refine lv_tableIn (off := 514) (tgt := 547) hx hb dL_law_33 (by rw [z11]; decide) (by rw [z11]; decide) (by rw [z11]; rfl) (by decide) ?_
                              exact lw_c11 Y (HC.2.2.2.2.2.2.2.2.2.2.2.1) hk6 hR hP hS hl nxt
                            · skip
                              by_cases z12 : ((xs (nI (6 * k)).toNatClampNeg) &&& 31) = 12
                              · refine lv_tableIn (off := 597) (tgt := 630) hx hb dL_law_33 (by rw [z12]; decide) (by rw [z12]; decide) (by rw [z12]; rfl) (by decide) ?_
                                exact lw_c12 Y (HC.2.2.2.2.2.2.2.2.2.2.2.2.1) hk6 hR hP hS hl nxt
                              · skip
                                by_cases z13 : ((xs (nI (6 * k)).toNatClampNeg) &&& 31) = 13
                                · refine lv_tableIn (off := 620) (tgt := 653) hx hb dL_law_33 (by rw [z13]; decide) (by rw [z13]; decide) (by rw [z13]; rfl) (by decide) ?_
                                  exact lw_c13 Y (HC.2.2.2.2.2.2.2.2.2.2.2.2.2.1) hk6 hR hP hS hl nxt
                                · skip
                                  by_cases z14 : ((xs (nI (6 * k)).toNatClampNeg) &&& 31) = 14
                                  · refine lv_tableIn (off := 643) (tgt := 676) hx hb dL_law_33 (by rw [z14]; decide) (by rw [z14]; decide) (by rw [z14]; rfl) (by decide) ?_
                                    exact lw_c14 Y (HC.2.2.2.2.2.2.2.2.2.2.2.2.2.2.1) hk6 hR hP hS hl nxt
                                  · skip
                                    by_cases z15 : ((xs (nI (6 * k)).toNatClampNeg) &&& 31) = 15
                                    · refine lv_tableIn (off := 666) (tgt := 699) hx hb dL_law_33 (by rw [z15]; decide) (by rw [z15]; decide) (by rw [z15]; rfl) (by decide) ?_
                                      exact lw_c15 Y (HC.2.2.2.2.2.2.2.2.2.2.2.2.2.2.2.1) hk6 hR hP hS hl nxt
                                    · skip
                                      by_cases z16 : ((xs (nI (6 * k)).toNatClampNeg) &&& 31) = 16
                                      · refine lv_tableIn (off := 699) (tgt := 732) hx hb dL_law_33 (by rw [z16]; decide) (by rw [z16]; decide) (by rw [z16]; rfl) (by decide) ?_
                                        exact lw_c16 Y (HC.2.2.2.2.2.2.2.2.2.2.2.2.2.2.2.2.1) hk6 hR hP hS hl nxt
                                      · skip
                                        by_cases z17 : ((xs (nI (6 * k)).toNatClampNeg) &&& 31) = 17
                                        · refine lv_tableIn (off := 733) (tgt := 766) hx hb dL_law_33 (by rw [z17]; decide) (by rw [z17]; decide) (by rw [z17]; rfl) (by decide) ?_
                                          exact lw_c17 Y (HC.2.2.2.2.2.2.2.2.2.2.2.2.2.2.2.2.2.1) hk6 hR hP hS hl nxt
                                        · skip
                                          by_cases z18 : ((xs (nI (6 * k)).toNatClampNeg) &&& 31) = 18
                                          · refine lv_tableIn (off := 766) (tgt := 799) hx hb dL_law_33 (by rw [z18]; decide) (by rw [z18]; decide) (by rw [z18]; rfl) (by decide) ?_
                                            exact lw_c18 Y (HC.2.2.2.2.2.2.2.2.2.2.2.2.2.2.2.2.2.2.1) hk6 hR hP hS hl nxt
                                          · skip
                                            by_cases z19 : ((xs (nI (6 * k)).toNatClampNeg) &&& 31) = 19
                                            · refine lv_tableIn (off := 809) (tgt := 842) hx hb dL_law_33 (by rw [z19]; decide) (by rw [z19]; decide) (by rw [z19]; rfl) (by decide) ?_
                                              exact lw_c19 Y (HC.2.2.2.2.2.2.2.2.2.2.2.2.2.2.2.2.2.2.2.1) hk6 hR hP hS hl nxt
                                            · skip
                                              by_cases z20 : ((xs (nI (6 * k)).toNatClampNeg) &&& 31) = 20
                                              · refine lv_tableIn (off := 842) (tgt := 875) hx hb dL_law_33 (by rw [z20]; decide) (by rw [z20]; decide) (by rw [z20]; rfl) (by decide) ?_
                                                exact lw_c20 Y (HC.2.2.2.2.2.2.2.2.2.2.2.2.2.2.2.2.2.2.2.2.1) hk6 hR hP hS hl nxt
                                              · skip
                                                by_cases z21 : ((xs (nI (6 * k)).toNatClampNeg) &&& 31) = 21
                                                · refine lv_tableIn (off := 875) (tgt := 908) hx hb dL_law_33 (by rw [z21]; decide) (by rw [z21]; decide) (by rw [z21]; rfl) (by decide) ?_
                                                  exact lw_c21 Y (HC.2.2.2.2.2.2.2.2.2.2.2.2.2.2.2.2.2.2.2.2.2.1) hk6 hR hP hS hl nxt
                                                · skip
                                                  by_cases z22 : ((xs (nI (6 * k)).toNatClampNeg) &&& 31) = 22
                                                  · refine lv_tableIn (off := 898) (tgt := 931) hx hb dL_law_33 (by rw [z22]; decide) (by rw [z22]; decide) (by rw [z22]; rfl) (by decide) ?_
                                                    exact lw_c22 Y (HC.2.2.2.2.2.2.2.2.2.2.2.2.2.2.2.2.2.2.2.2.2.2.1) hk6 hR hP hS hl nxt
                                                  · skip
                                                    by_cases z23 : ((xs (nI (6 * k)).toNatClampNeg) &&& 31) = 23
                                                    · refine lv_tableIn (off := 931) (tgt := 964) hx hb dL_law_33 (by rw [z23]; decide) (by rw [z23]; decide) (by rw [z23]; rfl) (by decide) ?_
                                                      exact lw_c23 Y (HC.2.2.2.2.2.2.2.2.2.2.2.2.2.2.2.2.2.2.2.2.2.2.2.1) hk6 hR hP hS hl nxt
                                                    · skip
                                                      by_cases z24 : ((xs (nI (6 * k)).toNatClampNeg) &&& 31) = 24
                                                      · refine lv_tableIn (off := 955) (tgt := 988) hx hb dL_law_33 (by rw [z24]; decide) (by rw [z24]; decide) (by rw [z24]; rfl) (by decide) ?_
                                                        exact lw_c24 Y (HC.2.2.2.2.2.2.2.2.2.2.2.2.2.2.2.2.2.2.2.2.2.2.2.2.1) hk6 hR hP hS hl nxt
                                                      · skip
                                                        by_cases z25 : ((xs (nI (6 * k)).toNatClampNeg) &&& 31) = 25
                                                        · refine lv_tableIn (off := 978) (tgt := 1011) hx hb dL_law_33 (by rw [z25]; decide) (by rw [z25]; decide) (by rw [z25]; rfl) (by decide) ?_
                                                          exact lw_c25 Y (HC.2.2.2.2.2.2.2.2.2.2.2.2.2.2.2.2.2.2.2.2.2.2.2.2.2) hk6 hR hP hS hl nxt
                                                        · skip
                                                          refine lv_tableOut (tgt := 1025) hx hb dL_law_33 (by have y0 := lv_neT (a := 0) z0 rfl; have y1 := lv_neT (a := 1) z1 rfl; have y2 := lv_neT (a := 2) z2 rfl; have y3 := lv_neT (a := 3) z3 rfl; have y4 := lv_neT (a := 4) z4 rfl; have y5 := lv_neT (a := 5) z5 rfl; have y6 := lv_neT (a := 6) z6 rfl; have y7 := lv_neT (a := 7) z7 rfl; have y8 := lv_neT (a := 8) z8 rfl; have y9 := lv_neT (a := 9) z9 rfl; have y10 := lv_neT (a := 10) z10 rfl; have y11 := lv_neT (a := 11) z11 rfl; have y12 := lv_neT (a := 12) z12 rfl; have y13 := lv_neT (a := 13) z13 rfl; have y14 := lv_neT (a := 14) z14 rfl; have y15 := lv_neT (a := 15) z15 rfl; have y16 := lv_neT (a := 16) z16 rfl; have y17 := lv_neT (a := 17) z17 rfl; have y18 := lv_neT (a := 18) z18 rfl; have y19 := lv_neT (a := 19) z19 rfl; have y20 := lv_neT (a := 20) z20 rfl; have y21 := lv_neT (a := 21) z21 rfl; have y22 := lv_neT (a := 22) z22 rfl; have y23 := lv_neT (a := 23) z23 rfl; have y24 := lv_neT (a := 24) z24 rfl; have y25 := lv_neT (a := 25) z25 rfl; omega) (by decide) ?_
                                                          refine W.widen (k := 189 + 4 * (k + 1)) (n := 11355 + 38 * (k + 1)) (by omega) (by omega) ?_
                                                          exact nxt nT M _ _ hR hP hS
end LAW
set_option maxRecDepth 100000 in
set_option maxHeartbeats 8000000 in
/-- THE LAW, from its entry, for any relation that the calls keep -/
theorem whole_by {p : Program} {e : Env} {s : State} {m : MethodId} {below : List Frame} {meth : Method} {c : Code} (l : Launch) {b L : Nat} {xs : Nat → Int32} {Rl : Nat → Mem → Prop} (HC : Calls Rl) (H0 : Rl 0 M0) (hL : L ≤ 3072) (C0 : lw_At p s m meth c b L xs) : W p l e room_1 s m #[Value.ref b] below meth c s.heap [] 0 0 (lw_Z below #[Value.ref b] s) (entryFrame m ([Value.ref b] : List Value).toArray 4) := by
  obtain ⟨hx, hb, hr, hml, hown, hts, hX, hbl, hlk, hgv⟩ := C0
  obtain ⟨G, cy, hKn, hO⟩ := kn_entry hts
  have X : Cx p s m #[Value.ref b] meth c cL_law RL 4 ret G cy := ⟨hx, hb, hr, hml, hown, fun w h => hts w (wsA_in w h), hKn, hlk⟩
  obtain ⟨B, hB⟩ : ∃ B, s.heap.size = B := ⟨_, rfl⟩
  have Y : LX p s m meth c G cy b L B xs := ⟨X, hO, hX, hbl, hB, hL⟩
  replace hts := X.2.2.2.2.2.1
  have hS : va_S (FB B) s.heap s.heap [] := va_S.rf
  have hP : PT G B ([] ++ []) s.heap := ⟨by rw [hB]; rfl, fun i e h => by simp at h⟩
  have hl := lv_entry ([.ref b]) (n := 4) (Nat.le_of_ble_eq_true rfl)
  rw [lg_entry_eq]
  generalize (lg_sl ([.ref b]) ++ List.replicate (4 - (lg_sl ([.ref b])).length) Slot.unset).toArray = ls at hl ⊢
  have hl : lv_has ls 4 [(0, .ref b)] := hl
  have hq0 : ([] : List va_E).length = 0 := rfl
  refine e_new (C := RX8) (T := TX8) (N := 14) (ci := 8) X hP hq0 hS inA8 tyX8 tyX8_ok k_13 k_14 k_1 rfl [.null, .null, .null, .null, .null, .null, .null, .null, .int 0, .int 0, .int 0, .int 0, .int 0, .long 0] (fun j hj => by rcases (show j = 0 ∨ j = 1 ∨ j = 2 ∨ j = 3 ∨ j = 4 ∨ j = 5 ∨ j = 6 ∨ j = 7 ∨ j = 8 ∨ j = 9 ∨ j = 10 ∨ j = 11 ∨ j = 12 ∨ j = 13 by omega) with rfl | rfl | rfl | rfl | rfl | rfl | rfl | rfl | rfl | rfl | rfl | rfl | rfl | rfl <;> rfl) (n := 0) rfl (Nat.le_of_ble_eq_true rfl) (Nat.le_of_ble_eq_true rfl) dL_law_0 (fun H hP hS => ?_)
  refine lv_dup hx hb dL_law_3 rfl ?_
  refine e_ini (a := B + (0 + 0)) X hO hP hS (c_X8_init hq0) k_15 k_16 k_1 k_17 rfl hd_X8_init ⟨⟨rfl, rfl⟩, Nat.le_of_ble_eq_true rfl, Nat.le_of_ble_eq_true rfl⟩ (As := []) (rest := [.ref (B + (0 + 0))]) rfl hl.1 rfl (Nat.le_of_ble_eq_true rfl) dL_law_4 ⟨Nat.le_of_ble_eq_true rfl, Nat.le_of_ble_eq_true rfl⟩ (fun H locs hP hS => ?_)
  refine lv_astore_n (lv' := [(1, .ref (B + (0 + 0))), (0, .ref b)]) hx hb dL_law_7 rfl hl (by decide) rfl (fun ls hl => ?_)
  have hq9 : (L8 B cy 0).length = 119 := rfl
  have hP : PT G B (L8 B cy 0 ++ []) H := hP
  refine e_new (C := RX9) (T := TX9) (N := 82) (ci := 9) X hP hq9 hS inA9 tyX9 tyX9_ok k_549 k_550 k_9 rfl [.null, .null, .null, .null, .null, .null, .null, .null, .null, .null, .null, .null, .null, .int 0, .null, .null, .null, .null, .int 0, .null, .null, .null, .null, .null, .null, .null, .null, .null, .null, .null, .null, .null, .null, .null, .null, .null, .null, .int 0, .int 0, .null, .int 0, .int 0, .int 0, .null, .null, .null, .int 0, .long 0, .int 0, .null, .null, .null, .null, .null, .null, .null, .null, .null, .null, .null, .null, .null, .null, .null, .null, .null, .null, .null, .null, .null, .null, .null, .null, .null, .null, .null, .null, .null, .int 0, .int 0, .null, .int 0] (fun j hj => by rcases (show j = 0 ∨ j = 1 ∨ j = 2 ∨ j = 3 ∨ j = 4 ∨ j = 5 ∨ j = 6 ∨ j = 7 ∨ j = 8 ∨ j = 9 ∨ j = 10 ∨ j = 11 ∨ j = 12 ∨ j = 13 ∨ j = 14 ∨ j = 15 ∨ j = 16 ∨ j = 17 ∨ j = 18 ∨ j = 19 ∨ j = 20 ∨ j = 21 ∨ j = 22 ∨ j = 23 ∨ j = 24 ∨ j = 25 ∨ j = 26 ∨ j = 27 ∨ j = 28 ∨ j = 29 ∨ j = 30 ∨ j = 31 ∨ j = 32 ∨ j = 33 ∨ j = 34 ∨ j = 35 ∨ j = 36 ∨ j = 37 ∨ j = 38 ∨ j = 39 ∨ j = 40 ∨ j = 41 ∨ j = 42 ∨ j = 43 ∨ j = 44 ∨ j = 45 ∨ j = 46 ∨ j = 47 ∨ j = 48 ∨ j = 49 ∨ j = 50 ∨ j = 51 ∨ j = 52 ∨ j = 53 ∨ j = 54 ∨ j = 55 ∨ j = 56 ∨ j = 57 ∨ j = 58 ∨ j = 59 ∨ j = 60 ∨ j = 61 ∨ j = 62 ∨ j = 63 ∨ j = 64 ∨ j = 65 ∨ j = 66 ∨ j = 67 ∨ j = 68 ∨ j = 69 ∨ j = 70 ∨ j = 71 ∨ j = 72 ∨ j = 73 ∨ j = 74 ∨ j = 75 ∨ j = 76 ∨ j = 77 ∨ j = 78 ∨ j = 79 ∨ j = 80 ∨ j = 81 by omega) with rfl | rfl | rfl | rfl | rfl | rfl | rfl | rfl | rfl | rfl | rfl | rfl | rfl | rfl | rfl | rfl | rfl | rfl | rfl | rfl | rfl | rfl | rfl | rfl | rfl | rfl | rfl | rfl | rfl | rfl | rfl | rfl | rfl | rfl | rfl | rfl | rfl | rfl | rfl | rfl | rfl | rfl | rfl | rfl | rfl | rfl | rfl | rfl | rfl | rfl | rfl | rfl | rfl | rfl | rfl | rfl | rfl | rfl | rfl | rfl | rfl | rfl | rfl | rfl | rfl | rfl | rfl | rfl | rfl | rfl | rfl | rfl | rfl | rfl | rfl | rfl | rfl | rfl | rfl | rfl | rfl | rfl <;> rfl) (n := 0) rfl (Nat.le_of_ble_eq_true rfl) (Nat.le_of_ble_eq_true rfl) dL_law_8 (fun H hP hS => ?_)
  refine lv_dup hx hb dL_law_11 rfl ?_
  refine e_ini (a := B + (119 + 0)) X hO hP hS (c_X9_init hq9) k_551 k_552 k_9 k_553 rfl hd_X9_init ⟨⟨rfl, rfl⟩, Nat.le_of_ble_eq_true rfl, Nat.le_of_ble_eq_true rfl⟩ (As := []) (rest := [.ref (B + (119 + 0))]) rfl hl.1 rfl (Nat.le_of_ble_eq_true rfl) dL_law_12 ⟨Nat.le_of_ble_eq_true rfl, Nat.le_of_ble_eq_true rfl⟩ (fun H locs hP hS => ?_)
  have hP := ini_pic hP
  refine lv_astore_n (lv' := [(2, .ref (B + (119 + 0))), (1, .ref (B + (0 + 0))), (0, .ref b)]) hx hb dL_law_15 rfl hl (by decide) rfl (fun ls hl => ?_)
  refine lv_iconst (v := 0) hx hb dL_law_16 (by decide) ?_
  refine lv_istore_n (lv' := [(3, .int 0), (2, .ref (B + (119 + 0))), (1, .ref (B + (0 + 0))), (0, .ref b)]) hx hb dL_law_17 rfl hl (by decide) rfl (fun ls hl => ?_)
  refine W.widen (k := 189 + 4 * 0) (n := 11355 + 38 * 0) (Nat.le_of_ble_eq_true rfl) (Nat.le_of_ble_eq_true rfl) ?_
  exact lw_loop Y HC (L + 1) 0 (by omega) (by omega) 0 M0 _ _ _ H0 hP hS (lv_sub hl [3, 2, 1, 0] rfl)

abbrev L8 (B : Nat) (cy : Nat → ClassId) (q : Nat) : List va_E := [.inr (8, [.ref (B + (q + 1)), .ref (B + (q + 11)), .ref (B + (q + 17)), .ref (B + (q + 22)), .ref (B + (q + 26)), .ref (B + (q + 27)), .ref (B + (q + 113)), .ref (B + (q + 118)), .int 0, .int 0, .int 0, .int 0, .int 1, .long 0]), .inr (5, [.ref (B + (q + 2)), .ref (B + (q + 7)), .ref (B + (q + 8)), .ref (B + (q + 9)), .ref (B + (q + 10))]), .inr (1, [.ref (B + (q + 3)), .ref (B + (q + 4)), .ref (B + (q + 5)), .ref (B + (q + 6))]), .inl (cy 0, 40, .inl (fun _ => 0)), .inl (cy 1, 40, .inr (.inl (fun _ => 0))), .inl (cy 0, 40, .inl (cF 40)), .inl (cy 0, 40, .inl (cF 40)), .inl (cy 0, 40, .inl (fun _ => 0)), .inl (cy 0, 40, .inl (cF 40)), .inl (cy 0, 480, .inl (fun _ => 0)), .inl (cy 0, 40, .inl (fun _ => 0)), .inr (7, [.ref (B + (q + 12)), .ref (B + (q + 13)), .ref (B + (q + 14)), .ref (B + (q + 15)), .ref (B + (q + 16))]), .inl (cy 0, 16, .inl (fun _ => 0)), .inl (cy 0, 16, .inl (fun _ => 0)), .inl (cy 0, 384, .inl (fun _ => 0)), .inl (cy 0, 384, .inl (fun _ => 0)), .inl (cy 0, 384, .inl (fun _ => 0)), .inr (4, [.ref (B + (q + 18)), .ref (B + (q + 19)), .ref (B + (q + 20)), .ref (B + (q + 21)), .int 0]), .inl (cy 0, 10, .inl (fun _ => 0)), .inl (cy 0, 10, .inl (fun _ => 0)), .inl (cy 0, 10, .inl (fun _ => 0)), .inl (cy 1, 10, .inr (.inl (fun _ => 0))), .inr (3, [.ref (B + (q + 23)), .ref (B + (q + 24)), .ref (B + (q + 25)), .int 0]), .inl (cy 0, 40, .inl (fun _ => 0)), .inl (cy 0, 40, .inl (fun _ => 0)), .inl (cy 1, 40, .inr (.inl (fun _ => 0))), .inl (cy 3, 20, .inr (.inr (.inr (.inr (fun _ => none))))), .inl (cy 4, 4, .inr (.inr (.inr (.inr (va_up (va_up (va_up (va_up (fun _ => none) 0 (some (B + (q + 65)))) 1 (some (B + (q + 77)))) 2 (some (B + (q + 89)))) 3 (some (B + (q + 101)))))))), .inl (cy 5, 6, .inr (.inr (.inr (.inr (va_up (va_up (va_up (va_up (va_up (va_up (fun _ => none) 0 (some (B + (q + 29)))) 1 (some (B + (q + 35)))) 2 (some (B + (q + 41)))) 3 (some (B + (q + 47)))) 4 (some (B + (q + 53)))) 5 (some (B + (q + 59)))))))), .inr (2, [.ref (B + (q + 30)), .long 0, .long 0, .int 0, .int 0]), .inr (1, [.ref (B + (q + 31)), .ref (B + (q + 32)), .ref (B + (q + 33)), .ref (B + (q + 34))]), .inl (cy 0, 40, .inl (fun _ => 0)), .inl (cy 1, 40, .inr (.inl (fun _ => 0))), .inl (cy 0, 40, .inl (cF 40)), .inl (cy 0, 40, .inl (cF 40)), .inr (2, [.ref (B + (q + 36)), .long 0, .long 0, .int 0, .int 0]), .inr (1, [.ref (B + (q + 37)), .ref (B + (q + 38)), .ref (B + (q + 39)), .ref (B + (q + 40))]), .inl (cy 0, 40, .inl (fun _ => 0)), .inl (cy 1, 40, .inr (.inl (fun _ => 0))), .inl (cy 0, 40, .inl (cF 40)), .inl (cy 0, 40, .inl (cF 40)), .inr (2, [.ref (B + (q + 42)), .long 0, .long 0, .int 0, .int 0]), .inr (1, [.ref (B + (q + 43)), .ref (B + (q + 44)), .ref (B + (q + 45)), .ref (B + (q + 46))]), .inl (cy 0, 40, .inl (fun _ => 0)), .inl (cy 1, 40, .inr (.inl (fun _ => 0))), .inl (cy 0, 40, .inl (cF 40)), .inl (cy 0, 40, .inl (cF 40)), .inr (2, [.ref (B + (q + 48)), .long 0, .long 0, .int 0, .int 0]), .inr (1, [.ref (B + (q + 49)), .ref (B + (q + 50)), .ref (B + (q + 51)), .ref (B + (q + 52))]), .inl (cy 0, 40, .inl (fun _ => 0)), .inl (cy 1, 40, .inr (.inl (fun _ => 0))), .inl (cy 0, 40, .inl (cF 40)), .inl (cy 0, 40, .inl (cF 40)), .inr (2, [.ref (B + (q + 54)), .long 0, .long 0, .int 0, .int 0]), .inr (1, [.ref (B + (q + 55)), .ref (B + (q + 56)), .ref (B + (q + 57)), .ref (B + (q + 58))]), .inl (cy 0, 40, .inl (fun _ => 0)), .inl (cy 1, 40, .inr (.inl (fun _ => 0))), .inl (cy 0, 40, .inl (cF 40)), .inl (cy 0, 40, .inl (cF 40)), .inr (2, [.ref (B + (q + 60)), .long 0, .long 0, .int 0, .int 0]), .inr (1, [.ref (B + (q + 61)), .ref (B + (q + 62)), .ref (B + (q + 63)), .ref (B + (q + 64))]), .inl (cy 0, 40, .inl (fun _ => 0)), .inl (cy 1, 40, .inr (.inl (fun _ => 0))), .inl (cy 0, 40, .inl (cF 40)), .inl (cy 0, 40, .inl (cF 40)), .inr (0, [.ref (B + (q + 11)), .ref (B + (q + 28)), .ref (B + (q + 66)), .int (-1), .int 0, .int 0, .long 0, .long 0, .long 0, .int 0, .int 0, .ref (B + (q + 71)), .ref (B + (q + 72)), .int 0, .ref (B + (q + 73)), .int 0, .ref (B + (q + 74)), .ref (B + (q + 75)), .ref (B + (q + 76))]), .inr (1, [.ref (B + (q + 67)), .ref (B + (q + 68)), .ref (B + (q + 69)), .ref (B + (q + 70))]), .inl (cy 0, 40, .inl (fun _ => 0)), .inl (cy 1, 40, .inr (.inl (fun _ => 0))), .inl (cy 0, 40, .inl (cF 40)), .inl (cy 0, 40, .inl (cF 40)), .inl (cy 0, 6, .inl (fun _ => 0)), .inl (cy 0, 6, .inl (fun _ => 0)), .inl (cy 1, 8, .inr (.inl (fun _ => 0))), .inl (cy 0, 40, .inl (fun _ => 0)), .inl (cy 0, 40, .inl (fun _ => 0)), .inl (cy 1, 40, .inr (.inl (fun _ => 0))), .inr (0, [.ref (B + (q + 11)), .ref (B + (q + 28)), .ref (B + (q + 78)), .int (-1), .int 0, .int 0, .long 0, .long 0, .long 0, .int 0, .int 0, .ref (B + (q + 83)), .ref (B + (q + 84)), .int 0, .ref (B + (q + 85)), .int 0, .ref (B + (q + 86)), .ref (B + (q + 87)), .ref (B + (q + 88))]), .inr (1, [.ref (B + (q + 79)), .ref (B + (q + 80)), .ref (B + (q + 81)), .ref (B + (q + 82))]), .inl (cy 0, 40, .inl (fun _ => 0)), .inl (cy 1, 40, .inr (.inl (fun _ => 0))), .inl (cy 0, 40, .inl (cF 40)), .inl (cy 0, 40, .inl (cF 40)), .inl (cy 0, 6, .inl (fun _ => 0)), .inl (cy 0, 6, .inl (fun _ => 0)), .inl (cy 1, 8, .inr (.inl (fun _ => 0))), .inl (cy 0, 40, .inl (fun _ => 0)), .inl (cy 0, 40, .inl (fun _ => 0)), .inl (cy 1, 40, .inr (.inl (fun _ => 0))), .inr (0, [.ref (B + (q + 11)), .ref (B + (q + 28)), .ref (B + (q + 90)), .int (-1), .int 0, .int 0, .long 0, .long 0, .long 0, .int 0, .int 0, .ref (B + (q + 95)), .ref (B + (q + 96)), .int 0, .ref (B + (q + 97)), .int 0, .ref (B + (q + 98)), .ref (B + (q + 99)), .ref (B + (q + 100))]), .inr (1, [.ref (B + (q + 91)), .ref (B + (q + 92)), .ref (B + (q + 93)), .ref (B + (q + 94))]), .inl (cy 0, 40, .inl (fun _ => 0)), .inl (cy 1, 40, .inr (.inl (fun _ => 0))), .inl (cy 0, 40, .inl (cF 40)), .inl (cy 0, 40, .inl (cF 40)), .inl (cy 0, 6, .inl (fun _ => 0)), .inl (cy 0, 6, .inl (fun _ => 0)), .inl (cy 1, 8, .inr (.inl (fun _ => 0))), .inl (cy 0, 40, .inl (fun _ => 0)), .inl (cy 0, 40, .inl (fun _ => 0)), .inl (cy 1, 40, .inr (.inl (fun _ => 0))), .inr (0, [.ref (B + (q + 11)), .ref (B + (q + 28)), .ref (B + (q + 102)), .int (-1), .int 0, .int 0, .long 0, .long 0, .long 0, .int 0, .int 0, .ref (B + (q + 107)), .ref (B + (q + 108)), .int 0, .ref (B + (q + 109)), .int 0, .ref (B + (q + 110)), .ref (B + (q + 111)), .ref (B + (q + 112))]), .inr (1, [.ref (B + (q + 103)), .ref (B + (q + 104)), .ref (B + (q + 105)), .ref (B + (q + 106))]), .inl (cy 0, 40, .inl (fun _ => 0)), .inl (cy 1, 40, .inr (.inl (fun _ => 0))), .inl (cy 0, 40, .inl (cF 40)), .inl (cy 0, 40, .inl (cF 40)), .inl (cy 0, 6, .inl (fun _ => 0)), .inl (cy 0, 6, .inl (fun _ => 0)), .inl (cy 1, 8, .inr (.inl (fun _ => 0))), .inl (cy 0, 40, .inl (fun _ => 0)), .inl (cy 0, 40, .inl (fun _ => 0)), .inl (cy 1, 40, .inr (.inl (fun _ => 0))), .inr (1, [.ref (B + (q + 114)), .ref (B + (q + 115)), .ref (B + (q + 116)), .ref (B + (q + 117))]), .inl (cy 0, 40, .inl (fun _ => 0)), .inl (cy 1, 40, .inr (.inl (fun _ => 0))), .inl (cy 0, 40, .inl (cF 40)), .inl (cy 0, 40, .inl (cF 40)), .inl (cy 0, 20, .inl (fun _ => 0))]
abbrev L9 (B : Nat) (cy : Nat → ClassId) (q : Nat) : List va_E := [.inr (9, [.ref (B + (q + 1)), .ref (B + (q + 2)), .ref (B + (q + 3)), .ref (B + (q + 4)), .ref (B + (q + 5)), .ref (B + (q + 6)), .ref (B + (q + 7)), .ref (B + (q + 8)), .ref (B + (q + 9)), .ref (B + (q + 10)), .ref (B + (q + 11)), .ref (B + (q + 12)), .ref (B + (q + 13)), .int 0, .ref (B + (q + 14)), .ref (B + (q + 15)), .ref (B + (q + 16)), .ref (B + (q + 17)), .int 0, .ref (B + (q + 18)), .ref (B + (q + 19)), .ref (B + (q + 20)), .ref (B + (q + 21)), .ref (B + (q + 22)), .ref (B + (q + 23)), .ref (B + (q + 24)), .ref (B + (q + 25)), .ref (B + (q + 26)), .ref (B + (q + 27)), .ref (B + (q + 28)), .ref (B + (q + 29)), .ref (B + (q + 30)), .ref (B + (q + 31)), .ref (B + (q + 32)), .ref (B + (q + 33)), .ref (B + (q + 34)), .ref (B + (q + 35)), .int 1, .int 0, .ref (B + (q + 36)), .int 0, .int 0, .int 0, .ref (B + (q + 37)), .ref (B + (q + 38)), .ref (B + (q + 39)), .int 0, .long 0, .int 0, .ref (B + (q + 40)), .ref (B + (q + 41)), .ref (B + (q + 42)), .ref (B + (q + 43)), .ref (B + (q + 44)), .ref (B + (q + 45)), .ref (B + (q + 46)), .ref (B + (q + 47)), .ref (B + (q + 48)), .ref (B + (q + 49)), .ref (B + (q + 50)), .ref (B + (q + 51)), .ref (B + (q + 52)), .ref (B + (q + 53)), .ref (B + (q + 54)), .ref (B + (q + 55)), .ref (B + (q + 56)), .ref (B + (q + 57)), .ref (B + (q + 58)), .ref (B + (q + 59)), .ref (B + (q + 60)), .ref (B + (q + 61)), .ref (B + (q + 62)), .ref (B + (q + 63)), .ref (B + (q + 64)), .ref (B + (q + 65)), .ref (B + (q + 66)), .ref (B + (q + 67)), .ref (B + (q + 68)), .int 0, .int 0, .ref (B + (q + 69)), .int 0]), .inl (cy 0, 40, .inl (fun _ => 0)), .inl (cy 1, 40, .inr (.inl (fun _ => 0))), .inl (cy 0, 40, .inl (fun _ => 0)), .inl (cy 0, 40, .inl (fun _ => 0)), .inl (cy 0, 40, .inl (fun _ => 0)), .inl (cy 0, 40, .inl (cF 40)), .inl (cy 0, 40, .inl (fun _ => 0)), .inl (cy 0, 480, .inl (fun _ => 0)), .inl (cy 0, 16, .inl (fun _ => 0)), .inl (cy 0, 384, .inl (fun _ => 0)), .inl (cy 0, 384, .inl (fun _ => 0)), .inl (cy 0, 384, .inl (fun _ => 0)), .inl (cy 0, 16, .inl (fun _ => 0)), .inl (cy 0, 10, .inl (fun _ => 0)), .inl (cy 0, 10, .inl (fun _ => 0)), .inl (cy 0, 10, .inl (fun _ => 0)), .inl (cy 1, 10, .inr (.inl (fun _ => 0))), .inl (cy 0, 20, .inl (fun _ => 0)), .inl (cy 0, 20, .inl (fun _ => 0)), .inl (cy 0, 20, .inl (fun _ => 0)), .inl (cy 0, 20, .inl (fun _ => 0)), .inl (cy 0, 20, .inl (fun _ => 0)), .inl (cy 0, 20, .inl (fun _ => 0)), .inl (cy 0, 20, .inl (fun _ => 0)), .inl (cy 0, 20, .inl (fun _ => 0)), .inl (cy 0, 20, .inl (fun _ => 0)), .inl (cy 1, 160, .inr (.inl (fun _ => 0))), .inl (cy 0, 20, .inl (fun _ => 0)), .inl (cy 2, 20, .inl (fun _ => 0)), .inl (cy 0, 20, .inl (fun _ => 0)), .inl (cy 0, 20, .inl (fun _ => 0)), .inl (cy 2, 800, .inl (fun _ => 0)), .inl (cy 0, 20, .inl (fun _ => 0)), .inl (cy 0, 120, .inl (fun _ => 0)), .inl (cy 0, 120, .inl (fun _ => 0)), .inl (cy 0, 20, .inl (fun _ => 0)), .inl (cy 0, 40, .inl (fun _ => 0)), .inl (cy 0, 40, .inl (fun _ => 0)), .inl (cy 1, 40, .inr (.inl (fun _ => 0))), .inl (cy 0, 4, .inl (fun _ => 0)), .inl (cy 0, 4, .inl (fun _ => 0)), .inl (cy 0, 4, .inl (fun _ => 0)), .inl (cy 0, 4, .inl (fun _ => 0)), .inl (cy 2, 160, .inl (fun _ => 0)), .inl (cy 0, 160, .inl (fun _ => 0)), .inl (cy 1, 160, .inr (.inl (fun _ => 0))), .inl (cy 0, 160, .inl (fun _ => 0)), .inl (cy 0, 160, .inl (fun _ => 0)), .inl (cy 2, 160, .inl (fun _ => 0)), .inl (cy 0, 160, .inl (fun _ => 0)), .inl (cy 0, 4, .inl (fun _ => 0)), .inl (cy 1, 32, .inr (.inl (fun _ => 0))), .inl (cy 0, 4, .inl (fun _ => 0)), .inl (cy 0, 160, .inl (fun _ => 0)), .inl (cy 0, 160, .inl (fun _ => 0)), .inl (cy 1, 160, .inr (.inl (fun _ => 0))), .inl (cy 0, 4, .inl (fun _ => 0)), .inl (cy 0, 24, .inl (fun _ => 0)), .inl (cy 0, 24, .inl (fun _ => 0)), .inl (cy 0, 24, .inl (fun _ => 0)), .inl (cy 1, 24, .inr (.inl (fun _ => 0))), .inl (cy 0, 24, .inl (fun _ => 0)), .inl (cy 0, 24, .inl (fun _ => 0)), .inl (cy 2, 240, .inl (fun _ => 0)), .inl (cy 0, 240, .inl (fun _ => 0)), .inl (cy 1, 240, .inr (.inl (fun _ => 0))), .inl (cy 0, 240, .inl (fun _ => 0)), .inl (cy 0, 240, .inl (fun _ => 0)), .inl (cy 0, 4, .inl (fun _ => 0))]
def mns : List Nat := [5, 6, 8, 33, 34, 39, 40, 45, 46, 51, 52, 57, 58, 63, 64, 69, 70, 81, 82, 93, 94, 105, 106, 116, 117, 125]
def M0 : Mem := (fun q => if mns.contains q then cF 40 else if q = 0 then (fun i => if i = 12 then 1 else 0) else if q = 119 then (fun i => if i = 37 then 1 else 0) else if q = 65 ∨ q = 77 ∨ q = 89 ∨ q = 101 then (fun i => if i = 3 then -1 else 0) else (fun _ => 0), fun _ _ => 0, fun _ _ => false)
theorem at_q {G : va_G} {a n : Nat} {cA : ClassId} {f g : Nat → Option Nat} {H : Heap} (h : va_at G vwCl (a, .inl (cA, n, .inr (.inr (.inr (.inr f))))) H) (e : ∀ j, j < n → f j = g j) : va_at G vwCl (a, .inl (cA, n, .inr (.inr (.inr (.inr g))))) H := by
  have h : H[a]? = some (vp_cell cA (n, .inr (.inr (.inr (.inr f))))) := h
  show H[a]? = some (vp_cell cA (n, .inr (.inr (.inr (.inr g)))))
  rw [h, vp_cell_q, vp_cell_q]
  exact congrArg some (arrV_cg fun j hj => congrArg va_rf (e j hj))
theorem ini_0 {G : va_G} {B : Nat} {cy : Nat → ClassId} {H : Heap} (e : va_E) (he : (L8 B cy 0 ++ L9 B cy 119)[0]? = some e) (ha : va_at G vwCl (B + 0, e) H) : va_at G vwCl (B + 0, EM B cy 0 M0 0) H := by cases he; exact ha
theorem ini_1 {G : va_G} {B : Nat} {cy : Nat → ClassId} {H : Heap} (e : va_E) (he : (L8 B cy 0 ++ L9 B cy 119)[1]? = some e) (ha : va_at G vwCl (B + 1, e) H) : va_at G vwCl (B + 1, EM B cy 0 M0 1) H := by cases he; exact ha
theorem ini_2 {G : va_G} {B : Nat} {cy : Nat → ClassId} {H : Heap} (e : va_E) (he : (L8 B cy 0 ++ L9 B cy 119)[2]? = some e) (ha : va_at G vwCl (B + 2, e) H) : va_at G vwCl (B + 2, EM B cy 0 M0 2) H := by cases he; exact ha
theorem ini_3 {G : va_G} {B : Nat} {cy : Nat → ClassId} {H : Heap} (e : va_E) (he : (L8 B cy 0 ++ L9 B cy 119)[3]? = some e) (ha : va_at G vwCl (B + 3, e) H) : va_at G vwCl (B + 3, EM B cy 0 M0 3) H := by cases he; exact ha
theorem ini_4 {G : va_G} {B : Nat} {cy : Nat → ClassId} {H : Heap} (e : va_E) (he : (L8 B cy 0 ++ L9 B cy 119)[4]? = some e) (ha : va_at G vwCl (B + 4, e) H) : va_at G vwCl (B + 4, EM B cy 0 M0 4) H := by cases he; exact ha
theorem ini_5 {G : va_G} {B : Nat} {cy : Nat → ClassId} {H : Heap} (e : va_E) (he : (L8 B cy 0 ++ L9 B cy 119)[5]? = some e) (ha : va_at G vwCl (B + 5, e) H) : va_at G vwCl (B + 5, EM B cy 0 M0 5) H := by cases he; exact ha
theorem ini_6 {G : va_G} {B : Nat} {cy : Nat → ClassId} {H : Heap} (e : va_E) (he : (L8 B cy 0 ++ L9 B cy 119)[6]? = some e) (ha : va_at G vwCl (B + 6, e) H) : va_at G vwCl (B + 6, EM B cy 0 M0 6) H := by cases he; exact ha
theorem ini_7 {G : va_G} {B : Nat} {cy : Nat → ClassId} {H : Heap} (e : va_E) (he : (L8 B cy 0 ++ L9 B cy 119)[7]? = some e) (ha : va_at G vwCl (B + 7, e) H) : va_at G vwCl (B + 7, EM B cy 0 M0 7) H := by cases he; exact ha
theorem ini_8 {G : va_G} {B : Nat} {cy : Nat → ClassId} {H : Heap} (e : va_E) (he : (L8 B cy 0 ++ L9 B cy 119)[8]? = some e) (ha : va_at G vwCl (B + 8, e) H) : va_at G vwCl (B + 8, EM B cy 0 M0 8) H := by cases he; exact ha
theorem ini_9 {G : va_G} {B : Nat} {cy : Nat → ClassId} {H : Heap} (e : va_E) (he : (L8 B cy 0 ++ L9 B cy 119)[9]? = some e) (ha : va_at G vwCl (B + 9, e) H) : va_at G vwCl (B + 9, EM B cy 0 M0 9) H := by cases he; exact ha
theorem ini_10 {G : va_G} {B : Nat} {cy : Nat → ClassId} {H : Heap} (e : va_E) (he : (L8 B cy 0 ++ L9 B cy 119)[10]? = some e) (ha : va_at G vwCl (B + 10, e) H) : va_at G vwCl (B + 10, EM B cy 0 M0 10) H := by cases he; exact ha
theorem ini_11 {G : va_G} {B : Nat} {cy : Nat → ClassId} {H : Heap} (e : va_E) (he : (L8 B cy 0 ++ L9 B cy 119)[11]? = some e) (ha : va_at G vwCl (B + 11, e) H) : va_at G vwCl (B + 11, EM B cy 0 M0 11) H := by cases he; exact ha
theorem ini_12 {G : va_G} {B : Nat} {cy : Nat → ClassId} {H : Heap} (e : va_E) (he : (L8 B cy 0 ++ L9 B cy 119)[12]? = some e) (ha : va_at G vwCl (B + 12, e) H) : va_at G vwCl (B + 12, EM B cy 0 M0 12) H := by cases he; exact ha
theorem ini_13 {G : va_G} {B : Nat} {cy : Nat → ClassId} {H : Heap} (e : va_E) (he : (L8 B cy 0 ++ L9 B cy 119)[13]? = some e) (ha : va_at G vwCl (B + 13, e) H) : va_at G vwCl (B + 13, EM B cy 0 M0 13) H := by cases he; exact ha
theorem ini_14 {G : va_G} {B : Nat} {cy : Nat → ClassId} {H : Heap} (e : va_E) (he : (L8 B cy 0 ++ L9 B cy 119)[14]? = some e) (ha : va_at G vwCl (B + 14, e) H) : va_at G vwCl (B + 14, EM B cy 0 M0 14) H := by cases he; exact ha
theorem ini_15 {G : va_G} {B : Nat} {cy : Nat → ClassId} {H : Heap} (e : va_E) (he : (L8 B cy 0 ++ L9 B cy 119)[15]? = some e) (ha : va_at G vwCl (B + 15, e) H) : va_at G vwCl (B + 15, EM B cy 0 M0 15) H := by cases he; exact ha
theorem ini_16 {G : va_G} {B : Nat} {cy : Nat → ClassId} {H : Heap} (e : va_E) (he : (L8 B cy 0 ++ L9 B cy 119)[16]? = some e) (ha : va_at G vwCl (B + 16, e) H) : va_at G vwCl (B + 16, EM B cy 0 M0 16) H := by cases he; exact ha
theorem ini_17 {G : va_G} {B : Nat} {cy : Nat → ClassId} {H : Heap} (e : va_E) (he : (L8 B cy 0 ++ L9 B cy 119)[17]? = some e) (ha : va_at G vwCl (B + 17, e) H) : va_at G vwCl (B + 17, EM B cy 0 M0 17) H := by cases he; exact ha
theorem ini_18 {G : va_G} {B : Nat} {cy : Nat → ClassId} {H : Heap} (e : va_E) (he : (L8 B cy 0 ++ L9 B cy 119)[18]? = some e) (ha : va_at G vwCl (B + 18, e) H) : va_at G vwCl (B + 18, EM B cy 0 M0 18) H := by cases he; exact ha
theorem ini_19 {G : va_G} {B : Nat} {cy : Nat → ClassId} {H : Heap} (e : va_E) (he : (L8 B cy 0 ++ L9 B cy 119)[19]? = some e) (ha : va_at G vwCl (B + 19, e) H) : va_at G vwCl (B + 19, EM B cy 0 M0 19) H := by cases he; exact ha
theorem ini_20 {G : va_G} {B : Nat} {cy : Nat → ClassId} {H : Heap} (e : va_E) (he : (L8 B cy 0 ++ L9 B cy 119)[20]? = some e) (ha : va_at G vwCl (B + 20, e) H) : va_at G vwCl (B + 20, EM B cy 0 M0 20) H := by cases he; exact ha
theorem ini_21 {G : va_G} {B : Nat} {cy : Nat → ClassId} {H : Heap} (e : va_E) (he : (L8 B cy 0 ++ L9 B cy 119)[21]? = some e) (ha : va_at G vwCl (B + 21, e) H) : va_at G vwCl (B + 21, EM B cy 0 M0 21) H := by cases he; exact ha
theorem ini_22 {G : va_G} {B : Nat} {cy : Nat → ClassId} {H : Heap} (e : va_E) (he : (L8 B cy 0 ++ L9 B cy 119)[22]? = some e) (ha : va_at G vwCl (B + 22, e) H) : va_at G vwCl (B + 22, EM B cy 0 M0 22) H := by cases he; exact ha
theorem ini_23 {G : va_G} {B : Nat} {cy : Nat → ClassId} {H : Heap} (e : va_E) (he : (L8 B cy 0 ++ L9 B cy 119)[23]? = some e) (ha : va_at G vwCl (B + 23, e) H) : va_at G vwCl (B + 23, EM B cy 0 M0 23) H := by cases he; exact ha
theorem ini_24 {G : va_G} {B : Nat} {cy : Nat → ClassId} {H : Heap} (e : va_E) (he : (L8 B cy 0 ++ L9 B cy 119)[24]? = some e) (ha : va_at G vwCl (B + 24, e) H) : va_at G vwCl (B + 24, EM B cy 0 M0 24) H := by cases he; exact ha
theorem ini_25 {G : va_G} {B : Nat} {cy : Nat → ClassId} {H : Heap} (e : va_E) (he : (L8 B cy 0 ++ L9 B cy 119)[25]? = some e) (ha : va_at G vwCl (B + 25, e) H) : va_at G vwCl (B + 25, EM B cy 0 M0 25) H := by cases he; exact ha
theorem ini_26 {G : va_G} {B : Nat} {cy : Nat → ClassId} {H : Heap} (e : va_E) (he : (L8 B cy 0 ++ L9 B cy 119)[26]? = some e) (ha : va_at G vwCl (B + 26, e) H) : va_at G vwCl (B + 26, EM B cy 0 M0 26) H := by
  cases he
  rw [em_r4 (n := 20) (by decide +kernel)]
  refine at_q ha (fun j hj => ?_)
  rcases (show j = 0 ∨ j = 1 ∨ j = 2 ∨ j = 3 ∨ j = 4 ∨ j = 5 ∨ j = 6 ∨ j = 7 ∨ j = 8 ∨ j = 9 ∨ j = 10 ∨ j = 11 ∨ j = 12 ∨ j = 13 ∨ j = 14 ∨ j = 15 ∨ j = 16 ∨ j = 17 ∨ j = 18 ∨ j = 19 by omega) with rfl | rfl | rfl | rfl | rfl | rfl | rfl | rfl | rfl | rfl | rfl | rfl | rfl | rfl | rfl | rfl | rfl | rfl | rfl | rfl <;> rfl
theorem ini_27 {G : va_G} {B : Nat} {cy : Nat → ClassId} {H : Heap} (e : va_E) (he : (L8 B cy 0 ++ L9 B cy 119)[27]? = some e) (ha : va_at G vwCl (B + 27, e) H) : va_at G vwCl (B + 27, EM B cy 0 M0 27) H := by
  cases he
  rw [em_r5 (n := 4) (by decide +kernel)]
  refine at_q ha (fun j hj => ?_)
  rcases (show j = 0 ∨ j = 1 ∨ j = 2 ∨ j = 3 by omega) with rfl | rfl | rfl | rfl <;> rfl
theorem ini_28 {G : va_G} {B : Nat} {cy : Nat → ClassId} {H : Heap} (e : va_E) (he : (L8 B cy 0 ++ L9 B cy 119)[28]? = some e) (ha : va_at G vwCl (B + 28, e) H) : va_at G vwCl (B + 28, EM B cy 0 M0 28) H := by
  cases he
  rw [em_r6 (n := 6) (by decide +kernel)]
  refine at_q ha (fun j hj => ?_)
  rcases (show j = 0 ∨ j = 1 ∨ j = 2 ∨ j = 3 ∨ j = 4 ∨ j = 5 by omega) with rfl | rfl | rfl | rfl | rfl | rfl <;> rfl
theorem ini_29 {G : va_G} {B : Nat} {cy : Nat → ClassId} {H : Heap} (e : va_E) (he : (L8 B cy 0 ++ L9 B cy 119)[29]? = some e) (ha : va_at G vwCl (B + 29, e) H) : va_at G vwCl (B + 29, EM B cy 0 M0 29) H := by cases he; exact ha
theorem ini_30 {G : va_G} {B : Nat} {cy : Nat → ClassId} {H : Heap} (e : va_E) (he : (L8 B cy 0 ++ L9 B cy 119)[30]? = some e) (ha : va_at G vwCl (B + 30, e) H) : va_at G vwCl (B + 30, EM B cy 0 M0 30) H := by cases he; exact ha
theorem ini_31 {G : va_G} {B : Nat} {cy : Nat → ClassId} {H : Heap} (e : va_E) (he : (L8 B cy 0 ++ L9 B cy 119)[31]? = some e) (ha : va_at G vwCl (B + 31, e) H) : va_at G vwCl (B + 31, EM B cy 0 M0 31) H := by cases he; exact ha
theorem ini_32 {G : va_G} {B : Nat} {cy : Nat → ClassId} {H : Heap} (e : va_E) (he : (L8 B cy 0 ++ L9 B cy 119)[32]? = some e) (ha : va_at G vwCl (B + 32, e) H) : va_at G vwCl (B + 32, EM B cy 0 M0 32) H := by cases he; exact ha
theorem ini_33 {G : va_G} {B : Nat} {cy : Nat → ClassId} {H : Heap} (e : va_E) (he : (L8 B cy 0 ++ L9 B cy 119)[33]? = some e) (ha : va_at G vwCl (B + 33, e) H) : va_at G vwCl (B + 33, EM B cy 0 M0 33) H := by cases he; exact ha
theorem ini_34 {G : va_G} {B : Nat} {cy : Nat → ClassId} {H : Heap} (e : va_E) (he : (L8 B cy 0 ++ L9 B cy 119)[34]? = some e) (ha : va_at G vwCl (B + 34, e) H) : va_at G vwCl (B + 34, EM B cy 0 M0 34) H := by cases he; exact ha
theorem ini_35 {G : va_G} {B : Nat} {cy : Nat → ClassId} {H : Heap} (e : va_E) (he : (L8 B cy 0 ++ L9 B cy 119)[35]? = some e) (ha : va_at G vwCl (B + 35, e) H) : va_at G vwCl (B + 35, EM B cy 0 M0 35) H := by cases he; exact ha
theorem ini_36 {G : va_G} {B : Nat} {cy : Nat → ClassId} {H : Heap} (e : va_E) (he : (L8 B cy 0 ++ L9 B cy 119)[36]? = some e) (ha : va_at G vwCl (B + 36, e) H) : va_at G vwCl (B + 36, EM B cy 0 M0 36) H := by cases he; exact ha
theorem ini_37 {G : va_G} {B : Nat} {cy : Nat → ClassId} {H : Heap} (e : va_E) (he : (L8 B cy 0 ++ L9 B cy 119)[37]? = some e) (ha : va_at G vwCl (B + 37, e) H) : va_at G vwCl (B + 37, EM B cy 0 M0 37) H := by cases he; exact ha
theorem ini_38 {G : va_G} {B : Nat} {cy : Nat → ClassId} {H : Heap} (e : va_E) (he : (L8 B cy 0 ++ L9 B cy 119)[38]? = some e) (ha : va_at G vwCl (B + 38, e) H) : va_at G vwCl (B + 38, EM B cy 0 M0 38) H := by cases he; exact ha
theorem ini_39 {G : va_G} {B : Nat} {cy : Nat → ClassId} {H : Heap} (e : va_E) (he : (L8 B cy 0 ++ L9 B cy 119)[39]? = some e) (ha : va_at G vwCl (B + 39, e) H) : va_at G vwCl (B + 39, EM B cy 0 M0 39) H := by cases he; exact ha
theorem ini_40 {G : va_G} {B : Nat} {cy : Nat → ClassId} {H : Heap} (e : va_E) (he : (L8 B cy 0 ++ L9 B cy 119)[40]? = some e) (ha : va_at G vwCl (B + 40, e) H) : va_at G vwCl (B + 40, EM B cy 0 M0 40) H := by cases he; exact ha
theorem ini_41 {G : va_G} {B : Nat} {cy : Nat → ClassId} {H : Heap} (e : va_E) (he : (L8 B cy 0 ++ L9 B cy 119)[41]? = some e) (ha : va_at G vwCl (B + 41, e) H) : va_at G vwCl (B + 41, EM B cy 0 M0 41) H := by cases he; exact ha
theorem ini_42 {G : va_G} {B : Nat} {cy : Nat → ClassId} {H : Heap} (e : va_E) (he : (L8 B cy 0 ++ L9 B cy 119)[42]? = some e) (ha : va_at G vwCl (B + 42, e) H) : va_at G vwCl (B + 42, EM B cy 0 M0 42) H := by cases he; exact ha
theorem ini_43 {G : va_G} {B : Nat} {cy : Nat → ClassId} {H : Heap} (e : va_E) (he : (L8 B cy 0 ++ L9 B cy 119)[43]? = some e) (ha : va_at G vwCl (B + 43, e) H) : va_at G vwCl (B + 43, EM B cy 0 M0 43) H := by cases he; exact ha
theorem ini_44 {G : va_G} {B : Nat} {cy : Nat → ClassId} {H : Heap} (e : va_E) (he : (L8 B cy 0 ++ L9 B cy 119)[44]? = some e) (ha : va_at G vwCl (B + 44, e) H) : va_at G vwCl (B + 44, EM B cy 0 M0 44) H := by cases he; exact ha
theorem ini_45 {G : va_G} {B : Nat} {cy : Nat → ClassId} {H : Heap} (e : va_E) (he : (L8 B cy 0 ++ L9 B cy 119)[45]? = some e) (ha : va_at G vwCl (B + 45, e) H) : va_at G vwCl (B + 45, EM B cy 0 M0 45) H := by cases he; exact ha
theorem ini_46 {G : va_G} {B : Nat} {cy : Nat → ClassId} {H : Heap} (e : va_E) (he : (L8 B cy 0 ++ L9 B cy 119)[46]? = some e) (ha : va_at G vwCl (B + 46, e) H) : va_at G vwCl (B + 46, EM B cy 0 M0 46) H := by cases he; exact ha
theorem ini_47 {G : va_G} {B : Nat} {cy : Nat → ClassId} {H : Heap} (e : va_E) (he : (L8 B cy 0 ++ L9 B cy 119)[47]? = some e) (ha : va_at G vwCl (B + 47, e) H) : va_at G vwCl (B + 47, EM B cy 0 M0 47) H := by cases he; exact ha
theorem ini_48 {G : va_G} {B : Nat} {cy : Nat → ClassId} {H : Heap} (e : va_E) (he : (L8 B cy 0 ++ L9 B cy 119)[48]? = some e) (ha : va_at G vwCl (B + 48, e) H) : va_at G vwCl (B + 48, EM B cy 0 M0 48) H := by cases he; exact ha
theorem ini_49 {G : va_G} {B : Nat} {cy : Nat → ClassId} {H : Heap} (e : va_E) (he : (L8 B cy 0 ++ L9 B cy 119)[49]? = some e) (ha : va_at G vwCl (B + 49, e) H) : va_at G vwCl (B + 49, EM B cy 0 M0 49) H := by cases he; exact ha
theorem ini_50 {G : va_G} {B : Nat} {cy : Nat → ClassId} {H : Heap} (e : va_E) (he : (L8 B cy 0 ++ L9 B cy 119)[50]? = some e) (ha : va_at G vwCl (B + 50, e) H) : va_at G vwCl (B + 50, EM B cy 0 M0 50) H := by cases he; exact ha
theorem ini_51 {G : va_G} {B : Nat} {cy : Nat → ClassId} {H : Heap} (e : va_E) (he : (L8 B cy 0 ++ L9 B cy 119)[51]? = some e) (ha : va_at G vwCl (B + 51, e) H) : va_at G vwCl (B + 51, EM B cy 0 M0 51) H := by cases he; exact ha
theorem ini_52 {G : va_G} {B : Nat} {cy : Nat → ClassId} {H : Heap} (e : va_E) (he : (L8 B cy 0 ++ L9 B cy 119)[52]? = some e) (ha : va_at G vwCl (B + 52, e) H) : va_at G vwCl (B + 52, EM B cy 0 M0 52) H := by cases he; exact ha
theorem ini_53 {G : va_G} {B : Nat} {cy : Nat → ClassId} {H : Heap} (e : va_E) (he : (L8 B cy 0 ++ L9 B cy 119)[53]? = some e) (ha : va_at G vwCl (B + 53, e) H) : va_at G vwCl (B + 53, EM B cy 0 M0 53) H := by cases he; exact ha
theorem ini_54 {G : va_G} {B : Nat} {cy : Nat → ClassId} {H : Heap} (e : va_E) (he : (L8 B cy 0 ++ L9 B cy 119)[54]? = some e) (ha : va_at G vwCl (B + 54, e) H) : va_at G vwCl (B + 54, EM B cy 0 M0 54) H := by cases he; exact ha
theorem ini_55 {G : va_G} {B : Nat} {cy : Nat → ClassId} {H : Heap} (e : va_E) (he : (L8 B cy 0 ++ L9 B cy 119)[55]? = some e) (ha : va_at G vwCl (B + 55, e) H) : va_at G vwCl (B + 55, EM B cy 0 M0 55) H := by cases he; exact ha
theorem ini_56 {G : va_G} {B : Nat} {cy : Nat → ClassId} {H : Heap} (e : va_E) (he : (L8 B cy 0 ++ L9 B cy 119)[56]? = some e) (ha : va_at G vwCl (B + 56, e) H) : va_at G vwCl (B + 56, EM B cy 0 M0 56) H := by cases he; exact ha
theorem ini_57 {G : va_G} {B : Nat} {cy : Nat → ClassId} {H : Heap} (e : va_E) (he : (L8 B cy 0 ++ L9 B cy 119)[57]? = some e) (ha : va_at G vwCl (B + 57, e) H) : va_at G vwCl (B + 57, EM B cy 0 M0 57) H := by cases he; exact ha
theorem ini_58 {G : va_G} {B : Nat} {cy : Nat → ClassId} {H : Heap} (e : va_E) (he : (L8 B cy 0 ++ L9 B cy 119)[58]? = some e) (ha : va_at G vwCl (B + 58, e) H) : va_at G vwCl (B + 58, EM B cy 0 M0 58) H := by cases he; exact ha
theorem ini_59 {G : va_G} {B : Nat} {cy : Nat → ClassId} {H : Heap} (e : va_E) (he : (L8 B cy 0 ++ L9 B cy 119)[59]? = some e) (ha : va_at G vwCl (B + 59, e) H) : va_at G vwCl (B + 59, EM B cy 0 M0 59) H := by cases he; exact ha
theorem ini_60 {G : va_G} {B : Nat} {cy : Nat → ClassId} {H : Heap} (e : va_E) (he : (L8 B cy 0 ++ L9 B cy 119)[60]? = some e) (ha : va_at G vwCl (B + 60, e) H) : va_at G vwCl (B + 60, EM B cy 0 M0 60) H := by cases he; exact ha
theorem ini_61 {G : va_G} {B : Nat} {cy : Nat → ClassId} {H : Heap} (e : va_E) (he : (L8 B cy 0 ++ L9 B cy 119)[61]? = some e) (ha : va_at G vwCl (B + 61, e) H) : va_at G vwCl (B + 61, EM B cy 0 M0 61) H := by cases he; exact ha
theorem ini_62 {G : va_G} {B : Nat} {cy : Nat → ClassId} {H : Heap} (e : va_E) (he : (L8 B cy 0 ++ L9 B cy 119)[62]? = some e) (ha : va_at G vwCl (B + 62, e) H) : va_at G vwCl (B + 62, EM B cy 0 M0 62) H := by cases he; exact ha
theorem ini_63 {G : va_G} {B : Nat} {cy : Nat → ClassId} {H : Heap} (e : va_E) (he : (L8 B cy 0 ++ L9 B cy 119)[63]? = some e) (ha : va_at G vwCl (B + 63, e) H) : va_at G vwCl (B + 63, EM B cy 0 M0 63) H := by cases he; exact ha
theorem ini_64 {G : va_G} {B : Nat} {cy : Nat → ClassId} {H : Heap} (e : va_E) (he : (L8 B cy 0 ++ L9 B cy 119)[64]? = some e) (ha : va_at G vwCl (B + 64, e) H) : va_at G vwCl (B + 64, EM B cy 0 M0 64) H := by cases he; exact ha
theorem ini_65 {G : va_G} {B : Nat} {cy : Nat → ClassId} {H : Heap} (e : va_E) (he : (L8 B cy 0 ++ L9 B cy 119)[65]? = some e) (ha : va_at G vwCl (B + 65, e) H) : va_at G vwCl (B + 65, EM B cy 0 M0 65) H := by cases he; exact ha
theorem ini_66 {G : va_G} {B : Nat} {cy : Nat → ClassId} {H : Heap} (e : va_E) (he : (L8 B cy 0 ++ L9 B cy 119)[66]? = some e) (ha : va_at G vwCl (B + 66, e) H) : va_at G vwCl (B + 66, EM B cy 0 M0 66) H := by cases he; exact ha
theorem ini_67 {G : va_G} {B : Nat} {cy : Nat → ClassId} {H : Heap} (e : va_E) (he : (L8 B cy 0 ++ L9 B cy 119)[67]? = some e) (ha : va_at G vwCl (B + 67, e) H) : va_at G vwCl (B + 67, EM B cy 0 M0 67) H := by cases he; exact ha
theorem ini_68 {G : va_G} {B : Nat} {cy : Nat → ClassId} {H : Heap} (e : va_E) (he : (L8 B cy 0 ++ L9 B cy 119)[68]? = some e) (ha : va_at G vwCl (B + 68, e) H) : va_at G vwCl (B + 68, EM B cy 0 M0 68) H := by cases he; exact ha
theorem ini_69 {G : va_G} {B : Nat} {cy : Nat → ClassId} {H : Heap} (e : va_E) (he : (L8 B cy 0 ++ L9 B cy 119)[69]? = some e) (ha : va_at G vwCl (B + 69, e) H) : va_at G vwCl (B + 69, EM B cy 0 M0 69) H := by cases he; exact ha
theorem ini_70 {G : va_G} {B : Nat} {cy : Nat → ClassId} {H : Heap} (e : va_E) (he : (L8 B cy 0 ++ L9 B cy 119)[70]? = some e) (ha : va_at G vwCl (B + 70, e) H) : va_at G vwCl (B + 70, EM B cy 0 M0 70) H := by cases he; exact ha
theorem ini_71 {G : va_G} {B : Nat} {cy : Nat → ClassId} {H : Heap} (e : va_E) (he : (L8 B cy 0 ++ L9 B cy 119)[71]? = some e) (ha : va_at G vwCl (B + 71, e) H) : va_at G vwCl (B + 71, EM B cy 0 M0 71) H := by cases he; exact ha
theorem ini_72 {G : va_G} {B : Nat} {cy : Nat → ClassId} {H : Heap} (e : va_E) (he : (L8 B cy 0 ++ L9 B cy 119)[72]? = some e) (ha : va_at G vwCl (B + 72, e) H) : va_at G vwCl (B + 72, EM B cy 0 M0 72) H := by cases he; exact ha
theorem ini_73 {G : va_G} {B : Nat} {cy : Nat → ClassId} {H : Heap} (e : va_E) (he : (L8 B cy 0 ++ L9 B cy 119)[73]? = some e) (ha : va_at G vwCl (B + 73, e) H) : va_at G vwCl (B + 73, EM B cy 0 M0 73) H := by cases he; exact ha
theorem ini_74 {G : va_G} {B : Nat} {cy : Nat → ClassId} {H : Heap} (e : va_E) (he : (L8 B cy 0 ++ L9 B cy 119)[74]? = some e) (ha : va_at G vwCl (B + 74, e) H) : va_at G vwCl (B + 74, EM B cy 0 M0 74) H := by cases he; exact ha
theorem ini_75 {G : va_G} {B : Nat} {cy : Nat → ClassId} {H : Heap} (e : va_E) (he : (L8 B cy 0 ++ L9 B cy 119)[75]? = some e) (ha : va_at G vwCl (B + 75, e) H) : va_at G vwCl (B + 75, EM B cy 0 M0 75) H := by cases he; exact ha
theorem ini_76 {G : va_G} {B : Nat} {cy : Nat → ClassId} {H : Heap} (e : va_E) (he : (L8 B cy 0 ++ L9 B cy 119)[76]? = some e) (ha : va_at G vwCl (B + 76, e) H) : va_at G vwCl (B + 76, EM B cy 0 M0 76) H := by cases he; exact ha
theorem ini_77 {G : va_G} {B : Nat} {cy : Nat → ClassId} {H : Heap} (e : va_E) (he : (L8 B cy 0 ++ L9 B cy 119)[77]? = some e) (ha : va_at G vwCl (B + 77, e) H) : va_at G vwCl (B + 77, EM B cy 0 M0 77) H := by cases he; exact ha
theorem ini_78 {G : va_G} {B : Nat} {cy : Nat → ClassId} {H : Heap} (e : va_E) (he : (L8 B cy 0 ++ L9 B cy 119)[78]? = some e) (ha : va_at G vwCl (B + 78, e) H) : va_at G vwCl (B + 78, EM B cy 0 M0 78) H := by cases he; exact ha
theorem ini_79 {G : va_G} {B : Nat} {cy : Nat → ClassId} {H : Heap} (e : va_E) (he : (L8 B cy 0 ++ L9 B cy 119)[79]? = some e) (ha : va_at G vwCl (B + 79, e) H) : va_at G vwCl (B + 79, EM B cy 0 M0 79) H := by cases he; exact ha
theorem ini_80 {G : va_G} {B : Nat} {cy : Nat → ClassId} {H : Heap} (e : va_E) (he : (L8 B cy 0 ++ L9 B cy 119)[80]? = some e) (ha : va_at G vwCl (B + 80, e) H) : va_at G vwCl (B + 80, EM B cy 0 M0 80) H := by cases he; exact ha
theorem ini_81 {G : va_G} {B : Nat} {cy : Nat → ClassId} {H : Heap} (e : va_E) (he : (L8 B cy 0 ++ L9 B cy 119)[81]? = some e) (ha : va_at G vwCl (B + 81, e) H) : va_at G vwCl (B + 81, EM B cy 0 M0 81) H := by cases he; exact ha
theorem ini_82 {G : va_G} {B : Nat} {cy : Nat → ClassId} {H : Heap} (e : va_E) (he : (L8 B cy 0 ++ L9 B cy 119)[82]? = some e) (ha : va_at G vwCl (B + 82, e) H) : va_at G vwCl (B + 82, EM B cy 0 M0 82) H := by cases he; exact ha
theorem ini_83 {G : va_G} {B : Nat} {cy : Nat → ClassId} {H : Heap} (e : va_E) (he : (L8 B cy 0 ++ L9 B cy 119)[83]? = some e) (ha : va_at G vwCl (B + 83, e) H) : va_at G vwCl (B + 83, EM B cy 0 M0 83) H := by cases he; exact ha
theorem ini_84 {G : va_G} {B : Nat} {cy : Nat → ClassId} {H : Heap} (e : va_E) (he : (L8 B cy 0 ++ L9 B cy 119)[84]? = some e) (ha : va_at G vwCl (B + 84, e) H) : va_at G vwCl (B + 84, EM B cy 0 M0 84) H := by cases he; exact ha
theorem ini_85 {G : va_G} {B : Nat} {cy : Nat → ClassId} {H : Heap} (e : va_E) (he : (L8 B cy 0 ++ L9 B cy 119)[85]? = some e) (ha : va_at G vwCl (B + 85, e) H) : va_at G vwCl (B + 85, EM B cy 0 M0 85) H := by cases he; exact ha
theorem ini_86 {G : va_G} {B : Nat} {cy : Nat → ClassId} {H : Heap} (e : va_E) (he : (L8 B cy 0 ++ L9 B cy 119)[86]? = some e) (ha : va_at G vwCl (B + 86, e) H) : va_at G vwCl (B + 86, EM B cy 0 M0 86) H := by cases he; exact ha
theorem ini_87 {G : va_G} {B : Nat} {cy : Nat → ClassId} {H : Heap} (e : va_E) (he : (L8 B cy 0 ++ L9 B cy 119)[87]? = some e) (ha : va_at G vwCl (B + 87, e) H) : va_at G vwCl (B + 87, EM B cy 0 M0 87) H := by cases he; exact ha
theorem ini_88 {G : va_G} {B : Nat} {cy : Nat → ClassId} {H : Heap} (e : va_E) (he : (L8 B cy 0 ++ L9 B cy 119)[88]? = some e) (ha : va_at G vwCl (B + 88, e) H) : va_at G vwCl (B + 88, EM B cy 0 M0 88) H := by cases he; exact ha
theorem ini_89 {G : va_G} {B : Nat} {cy : Nat → ClassId} {H : Heap} (e : va_E) (he : (L8 B cy 0 ++ L9 B cy 119)[89]? = some e) (ha : va_at G vwCl (B + 89, e) H) : va_at G vwCl (B + 89, EM B cy 0 M0 89) H := by cases he; exact ha
theorem ini_90 {G : va_G} {B : Nat} {cy : Nat → ClassId} {H : Heap} (e : va_E) (he : (L8 B cy 0 ++ L9 B cy 119)[90]? = some e) (ha : va_at G vwCl (B + 90, e) H) : va_at G vwCl (B + 90, EM B cy 0 M0 90) H := by cases he; exact ha
theorem ini_91 {G : va_G} {B : Nat} {cy : Nat → ClassId} {H : Heap} (e : va_E) (he : (L8 B cy 0 ++ L9 B cy 119)[91]? = some e) (ha : va_at G vwCl (B + 91, e) H) : va_at G vwCl (B + 91, EM B cy 0 M0 91) H := by cases he; exact ha
theorem ini_92 {G : va_G} {B : Nat} {cy : Nat → ClassId} {H : Heap} (e : va_E) (he : (L8 B cy 0 ++ L9 B cy 119)[92]? = some e) (ha : va_at G vwCl (B + 92, e) H) : va_at G vwCl (B + 92, EM B cy 0 M0 92) H := by cases he; exact ha
theorem ini_93 {G : va_G} {B : Nat} {cy : Nat → ClassId} {H : Heap} (e : va_E) (he : (L8 B cy 0 ++ L9 B cy 119)[93]? = some e) (ha : va_at G vwCl (B + 93, e) H) : va_at G vwCl (B + 93, EM B cy 0 M0 93) H := by cases he; exact ha
theorem ini_94 {G : va_G} {B : Nat} {cy : Nat → ClassId} {H : Heap} (e : va_E) (he : (L8 B cy 0 ++ L9 B cy 119)[94]? = some e) (ha : va_at G vwCl (B + 94, e) H) : va_at G vwCl (B + 94, EM B cy 0 M0 94) H := by cases he; exact ha
theorem ini_95 {G : va_G} {B : Nat} {cy : Nat → ClassId} {H : Heap} (e : va_E) (he : (L8 B cy 0 ++ L9 B cy 119)[95]? = some e) (ha : va_at G vwCl (B + 95, e) H) : va_at G vwCl (B + 95, EM B cy 0 M0 95) H := by cases he; exact ha
theorem ini_96 {G : va_G} {B : Nat} {cy : Nat → ClassId} {H : Heap} (e : va_E) (he : (L8 B cy 0 ++ L9 B cy 119)[96]? = some e) (ha : va_at G vwCl (B + 96, e) H) : va_at G vwCl (B + 96, EM B cy 0 M0 96) H := by cases he; exact ha
theorem ini_97 {G : va_G} {B : Nat} {cy : Nat → ClassId} {H : Heap} (e : va_E) (he : (L8 B cy 0 ++ L9 B cy 119)[97]? = some e) (ha : va_at G vwCl (B + 97, e) H) : va_at G vwCl (B + 97, EM B cy 0 M0 97) H := by cases he; exact ha
theorem ini_98 {G : va_G} {B : Nat} {cy : Nat → ClassId} {H : Heap} (e : va_E) (he : (L8 B cy 0 ++ L9 B cy 119)[98]? = some e) (ha : va_at G vwCl (B + 98, e) H) : va_at G vwCl (B + 98, EM B cy 0 M0 98) H := by cases he; exact ha
theorem ini_99 {G : va_G} {B : Nat} {cy : Nat → ClassId} {H : Heap} (e : va_E) (he : (L8 B cy 0 ++ L9 B cy 119)[99]? = some e) (ha : va_at G vwCl (B + 99, e) H) : va_at G vwCl (B + 99, EM B cy 0 M0 99) H := by cases he; exact ha
theorem ini_100 {G : va_G} {B : Nat} {cy : Nat → ClassId} {H : Heap} (e : va_E) (he : (L8 B cy 0 ++ L9 B cy 119)[100]? = some e) (ha : va_at G vwCl (B + 100, e) H) : va_at G vwCl (B + 100, EM B cy 0 M0 100) H := by cases he; exact ha
theorem ini_101 {G : va_G} {B : Nat} {cy : Nat → ClassId} {H : Heap} (e : va_E) (he : (L8 B cy 0 ++ L9 B cy 119)[101]? = some e) (ha : va_at G vwCl (B + 101, e) H) : va_at G vwCl (B + 101, EM B cy 0 M0 101) H := by cases he; exact ha
theorem ini_102 {G : va_G} {B : Nat} {cy : Nat → ClassId} {H : Heap} (e : va_E) (he : (L8 B cy 0 ++ L9 B cy 119)[102]? = some e) (ha : va_at G vwCl (B + 102, e) H) : va_at G vwCl (B + 102, EM B cy 0 M0 102) H := by cases he; exact ha
theorem ini_103 {G : va_G} {B : Nat} {cy : Nat → ClassId} {H : Heap} (e : va_E) (he : (L8 B cy 0 ++ L9 B cy 119)[103]? = some e) (ha : va_at G vwCl (B + 103, e) H) : va_at G vwCl (B + 103, EM B cy 0 M0 103) H := by cases he; exact ha
theorem ini_104 {G : va_G} {B : Nat} {cy : Nat → ClassId} {H : Heap} (e : va_E) (he : (L8 B cy 0 ++ L9 B cy 119)[104]? = some e) (ha : va_at G vwCl (B + 104, e) H) : va_at G vwCl (B + 104, EM B cy 0 M0 104) H := by cases he; exact ha
theorem ini_105 {G : va_G} {B : Nat} {cy : Nat → ClassId} {H : Heap} (e : va_E) (he : (L8 B cy 0 ++ L9 B cy 119)[105]? = some e) (ha : va_at G vwCl (B + 105, e) H) : va_at G vwCl (B + 105, EM B cy 0 M0 105) H := by cases he; exact ha
theorem ini_106 {G : va_G} {B : Nat} {cy : Nat → ClassId} {H : Heap} (e : va_E) (he : (L8 B cy 0 ++ L9 B cy 119)[106]? = some e) (ha : va_at G vwCl (B + 106, e) H) : va_at G vwCl (B + 106, EM B cy 0 M0 106) H := by cases he; exact ha
theorem ini_107 {G : va_G} {B : Nat} {cy : Nat → ClassId} {H : Heap} (e : va_E) (he : (L8 B cy 0 ++ L9 B cy 119)[107]? = some e) (ha : va_at G vwCl (B + 107, e) H) : va_at G vwCl (B + 107, EM B cy 0 M0 107) H := by cases he; exact ha
theorem ini_108 {G : va_G} {B : Nat} {cy : Nat → ClassId} {H : Heap} (e : va_E) (he : (L8 B cy 0 ++ L9 B cy 119)[108]? = some e) (ha : va_at G vwCl (B + 108, e) H) : va_at G vwCl (B + 108, EM B cy 0 M0 108) H := by cases he; exact ha
theorem ini_109 {G : va_G} {B : Nat} {cy : Nat → ClassId} {H : Heap} (e : va_E) (he : (L8 B cy 0 ++ L9 B cy 119)[109]? = some e) (ha : va_at G vwCl (B + 109, e) H) : va_at G vwCl (B + 109, EM B cy 0 M0 109) H := by cases he; exact ha
theorem ini_110 {G : va_G} {B : Nat} {cy : Nat → ClassId} {H : Heap} (e : va_E) (he : (L8 B cy 0 ++ L9 B cy 119)[110]? = some e) (ha : va_at G vwCl (B + 110, e) H) : va_at G vwCl (B + 110, EM B cy 0 M0 110) H := by cases he; exact ha
theorem ini_111 {G : va_G} {B : Nat} {cy : Nat → ClassId} {H : Heap} (e : va_E) (he : (L8 B cy 0 ++ L9 B cy 119)[111]? = some e) (ha : va_at G vwCl (B + 111, e) H) : va_at G vwCl (B + 111, EM B cy 0 M0 111) H := by cases he; exact ha
theorem ini_112 {G : va_G} {B : Nat} {cy : Nat → ClassId} {H : Heap} (e : va_E) (he : (L8 B cy 0 ++ L9 B cy 119)[112]? = some e) (ha : va_at G vwCl (B + 112, e) H) : va_at G vwCl (B + 112, EM B cy 0 M0 112) H := by cases he; exact ha
theorem ini_113 {G : va_G} {B : Nat} {cy : Nat → ClassId} {H : Heap} (e : va_E) (he : (L8 B cy 0 ++ L9 B cy 119)[113]? = some e) (ha : va_at G vwCl (B + 113, e) H) : va_at G vwCl (B + 113, EM B cy 0 M0 113) H := by cases he; exact ha
theorem ini_114 {G : va_G} {B : Nat} {cy : Nat → ClassId} {H : Heap} (e : va_E) (he : (L8 B cy 0 ++ L9 B cy 119)[114]? = some e) (ha : va_at G vwCl (B + 114, e) H) : va_at G vwCl (B + 114, EM B cy 0 M0 114) H := by cases he; exact ha
theorem ini_115 {G : va_G} {B : Nat} {cy : Nat → ClassId} {H : Heap} (e : va_E) (he : (L8 B cy 0 ++ L9 B cy 119)[115]? = some e) (ha : va_at G vwCl (B + 115, e) H) : va_at G vwCl (B + 115, EM B cy 0 M0 115) H := by cases he; exact ha
theorem ini_116 {G : va_G} {B : Nat} {cy : Nat → ClassId} {H : Heap} (e : va_E) (he : (L8 B cy 0 ++ L9 B cy 119)[116]? = some e) (ha : va_at G vwCl (B + 116, e) H) : va_at G vwCl (B + 116, EM B cy 0 M0 116) H := by cases he; exact ha
theorem ini_117 {G : va_G} {B : Nat} {cy : Nat → ClassId} {H : Heap} (e : va_E) (he : (L8 B cy 0 ++ L9 B cy 119)[117]? = some e) (ha : va_at G vwCl (B + 117, e) H) : va_at G vwCl (B + 117, EM B cy 0 M0 117) H := by cases he; exact ha
theorem ini_118 {G : va_G} {B : Nat} {cy : Nat → ClassId} {H : Heap} (e : va_E) (he : (L8 B cy 0 ++ L9 B cy 119)[118]? = some e) (ha : va_at G vwCl (B + 118, e) H) : va_at G vwCl (B + 118, EM B cy 0 M0 118) H := by cases he; exact ha
theorem ini_119 {G : va_G} {B : Nat} {cy : Nat → ClassId} {H : Heap} (e : va_E) (he : (L8 B cy 0 ++ L9 B cy 119)[119]? = some e) (ha : va_at G vwCl (B + 119, e) H) : va_at G vwCl (B + 119, EM B cy 0 M0 119) H := by cases he; exact ha
theorem ini_120 {G : va_G} {B : Nat} {cy : Nat → ClassId} {H : Heap} (e : va_E) (he : (L8 B cy 0 ++ L9 B cy 119)[120]? = some e) (ha : va_at G vwCl (B + 120, e) H) : va_at G vwCl (B + 120, EM B cy 0 M0 120) H := by cases he; exact ha
theorem ini_121 {G : va_G} {B : Nat} {cy : Nat → ClassId} {H : Heap} (e : va_E) (he : (L8 B cy 0 ++ L9 B cy 119)[121]? = some e) (ha : va_at G vwCl (B + 121, e) H) : va_at G vwCl (B + 121, EM B cy 0 M0 121) H := by cases he; exact ha
theorem ini_122 {G : va_G} {B : Nat} {cy : Nat → ClassId} {H : Heap} (e : va_E) (he : (L8 B cy 0 ++ L9 B cy 119)[122]? = some e) (ha : va_at G vwCl (B + 122, e) H) : va_at G vwCl (B + 122, EM B cy 0 M0 122) H := by cases he; exact ha
theorem ini_123 {G : va_G} {B : Nat} {cy : Nat → ClassId} {H : Heap} (e : va_E) (he : (L8 B cy 0 ++ L9 B cy 119)[123]? = some e) (ha : va_at G vwCl (B + 123, e) H) : va_at G vwCl (B + 123, EM B cy 0 M0 123) H := by cases he; exact ha
theorem ini_124 {G : va_G} {B : Nat} {cy : Nat → ClassId} {H : Heap} (e : va_E) (he : (L8 B cy 0 ++ L9 B cy 119)[124]? = some e) (ha : va_at G vwCl (B + 124, e) H) : va_at G vwCl (B + 124, EM B cy 0 M0 124) H := by cases he; exact ha
theorem ini_125 {G : va_G} {B : Nat} {cy : Nat → ClassId} {H : Heap} (e : va_E) (he : (L8 B cy 0 ++ L9 B cy 119)[125]? = some e) (ha : va_at G vwCl (B + 125, e) H) : va_at G vwCl (B + 125, EM B cy 0 M0 125) H := by cases he; exact ha
theorem ini_126 {G : va_G} {B : Nat} {cy : Nat → ClassId} {H : Heap} (e : va_E) (he : (L8 B cy 0 ++ L9 B cy 119)[126]? = some e) (ha : va_at G vwCl (B + 126, e) H) : va_at G vwCl (B + 126, EM B cy 0 M0 126) H := by cases he; exact ha
theorem ini_127 {G : va_G} {B : Nat} {cy : Nat → ClassId} {H : Heap} (e : va_E) (he : (L8 B cy 0 ++ L9 B cy 119)[127]? = some e) (ha : va_at G vwCl (B + 127, e) H) : va_at G vwCl (B + 127, EM B cy 0 M0 127) H := by cases he; exact ha
theorem ini_128 {G : va_G} {B : Nat} {cy : Nat → ClassId} {H : Heap} (e : va_E) (he : (L8 B cy 0 ++ L9 B cy 119)[128]? = some e) (ha : va_at G vwCl (B + 128, e) H) : va_at G vwCl (B + 128, EM B cy 0 M0 128) H := by cases he; exact ha
theorem ini_129 {G : va_G} {B : Nat} {cy : Nat → ClassId} {H : Heap} (e : va_E) (he : (L8 B cy 0 ++ L9 B cy 119)[129]? = some e) (ha : va_at G vwCl (B + 129, e) H) : va_at G vwCl (B + 129, EM B cy 0 M0 129) H := by cases he; exact ha
theorem ini_130 {G : va_G} {B : Nat} {cy : Nat → ClassId} {H : Heap} (e : va_E) (he : (L8 B cy 0 ++ L9 B cy 119)[130]? = some e) (ha : va_at G vwCl (B + 130, e) H) : va_at G vwCl (B + 130, EM B cy 0 M0 130) H := by cases he; exact ha
theorem ini_131 {G : va_G} {B : Nat} {cy : Nat → ClassId} {H : Heap} (e : va_E) (he : (L8 B cy 0 ++ L9 B cy 119)[131]? = some e) (ha : va_at G vwCl (B + 131, e) H) : va_at G vwCl (B + 131, EM B cy 0 M0 131) H := by cases he; exact ha
theorem ini_132 {G : va_G} {B : Nat} {cy : Nat → ClassId} {H : Heap} (e : va_E) (he : (L8 B cy 0 ++ L9 B cy 119)[132]? = some e) (ha : va_at G vwCl (B + 132, e) H) : va_at G vwCl (B + 132, EM B cy 0 M0 132) H := by cases he; exact ha
theorem ini_133 {G : va_G} {B : Nat} {cy : Nat → ClassId} {H : Heap} (e : va_E) (he : (L8 B cy 0 ++ L9 B cy 119)[133]? = some e) (ha : va_at G vwCl (B + 133, e) H) : va_at G vwCl (B + 133, EM B cy 0 M0 133) H := by cases he; exact ha
theorem ini_134 {G : va_G} {B : Nat} {cy : Nat → ClassId} {H : Heap} (e : va_E) (he : (L8 B cy 0 ++ L9 B cy 119)[134]? = some e) (ha : va_at G vwCl (B + 134, e) H) : va_at G vwCl (B + 134, EM B cy 0 M0 134) H := by cases he; exact ha
theorem ini_135 {G : va_G} {B : Nat} {cy : Nat → ClassId} {H : Heap} (e : va_E) (he : (L8 B cy 0 ++ L9 B cy 119)[135]? = some e) (ha : va_at G vwCl (B + 135, e) H) : va_at G vwCl (B + 135, EM B cy 0 M0 135) H := by cases he; exact ha
theorem ini_136 {G : va_G} {B : Nat} {cy : Nat → ClassId} {H : Heap} (e : va_E) (he : (L8 B cy 0 ++ L9 B cy 119)[136]? = some e) (ha : va_at G vwCl (B + 136, e) H) : va_at G vwCl (B + 136, EM B cy 0 M0 136) H := by cases he; exact ha
theorem ini_137 {G : va_G} {B : Nat} {cy : Nat → ClassId} {H : Heap} (e : va_E) (he : (L8 B cy 0 ++ L9 B cy 119)[137]? = some e) (ha : va_at G vwCl (B + 137, e) H) : va_at G vwCl (B + 137, EM B cy 0 M0 137) H := by cases he; exact ha
theorem ini_138 {G : va_G} {B : Nat} {cy : Nat → ClassId} {H : Heap} (e : va_E) (he : (L8 B cy 0 ++ L9 B cy 119)[138]? = some e) (ha : va_at G vwCl (B + 138, e) H) : va_at G vwCl (B + 138, EM B cy 0 M0 138) H := by cases he; exact ha
theorem ini_139 {G : va_G} {B : Nat} {cy : Nat → ClassId} {H : Heap} (e : va_E) (he : (L8 B cy 0 ++ L9 B cy 119)[139]? = some e) (ha : va_at G vwCl (B + 139, e) H) : va_at G vwCl (B + 139, EM B cy 0 M0 139) H := by cases he; exact ha
theorem ini_140 {G : va_G} {B : Nat} {cy : Nat → ClassId} {H : Heap} (e : va_E) (he : (L8 B cy 0 ++ L9 B cy 119)[140]? = some e) (ha : va_at G vwCl (B + 140, e) H) : va_at G vwCl (B + 140, EM B cy 0 M0 140) H := by cases he; exact ha
theorem ini_141 {G : va_G} {B : Nat} {cy : Nat → ClassId} {H : Heap} (e : va_E) (he : (L8 B cy 0 ++ L9 B cy 119)[141]? = some e) (ha : va_at G vwCl (B + 141, e) H) : va_at G vwCl (B + 141, EM B cy 0 M0 141) H := by cases he; exact ha
theorem ini_142 {G : va_G} {B : Nat} {cy : Nat → ClassId} {H : Heap} (e : va_E) (he : (L8 B cy 0 ++ L9 B cy 119)[142]? = some e) (ha : va_at G vwCl (B + 142, e) H) : va_at G vwCl (B + 142, EM B cy 0 M0 142) H := by cases he; exact ha
theorem ini_143 {G : va_G} {B : Nat} {cy : Nat → ClassId} {H : Heap} (e : va_E) (he : (L8 B cy 0 ++ L9 B cy 119)[143]? = some e) (ha : va_at G vwCl (B + 143, e) H) : va_at G vwCl (B + 143, EM B cy 0 M0 143) H := by cases he; exact ha
theorem ini_144 {G : va_G} {B : Nat} {cy : Nat → ClassId} {H : Heap} (e : va_E) (he : (L8 B cy 0 ++ L9 B cy 119)[144]? = some e) (ha : va_at G vwCl (B + 144, e) H) : va_at G vwCl (B + 144, EM B cy 0 M0 144) H := by cases he; exact ha
theorem ini_145 {G : va_G} {B : Nat} {cy : Nat → ClassId} {H : Heap} (e : va_E) (he : (L8 B cy 0 ++ L9 B cy 119)[145]? = some e) (ha : va_at G vwCl (B + 145, e) H) : va_at G vwCl (B + 145, EM B cy 0 M0 145) H := by cases he; exact ha
theorem ini_146 {G : va_G} {B : Nat} {cy : Nat → ClassId} {H : Heap} (e : va_E) (he : (L8 B cy 0 ++ L9 B cy 119)[146]? = some e) (ha : va_at G vwCl (B + 146, e) H) : va_at G vwCl (B + 146, EM B cy 0 M0 146) H := by cases he; exact ha
theorem ini_147 {G : va_G} {B : Nat} {cy : Nat → ClassId} {H : Heap} (e : va_E) (he : (L8 B cy 0 ++ L9 B cy 119)[147]? = some e) (ha : va_at G vwCl (B + 147, e) H) : va_at G vwCl (B + 147, EM B cy 0 M0 147) H := by cases he; exact ha
theorem ini_148 {G : va_G} {B : Nat} {cy : Nat → ClassId} {H : Heap} (e : va_E) (he : (L8 B cy 0 ++ L9 B cy 119)[148]? = some e) (ha : va_at G vwCl (B + 148, e) H) : va_at G vwCl (B + 148, EM B cy 0 M0 148) H := by cases he; exact ha
theorem ini_149 {G : va_G} {B : Nat} {cy : Nat → ClassId} {H : Heap} (e : va_E) (he : (L8 B cy 0 ++ L9 B cy 119)[149]? = some e) (ha : va_at G vwCl (B + 149, e) H) : va_at G vwCl (B + 149, EM B cy 0 M0 149) H := by cases he; exact ha
theorem ini_150 {G : va_G} {B : Nat} {cy : Nat → ClassId} {H : Heap} (e : va_E) (he : (L8 B cy 0 ++ L9 B cy 119)[150]? = some e) (ha : va_at G vwCl (B + 150, e) H) : va_at G vwCl (B + 150, EM B cy 0 M0 150) H := by cases he; exact ha
theorem ini_151 {G : va_G} {B : Nat} {cy : Nat → ClassId} {H : Heap} (e : va_E) (he : (L8 B cy 0 ++ L9 B cy 119)[151]? = some e) (ha : va_at G vwCl (B + 151, e) H) : va_at G vwCl (B + 151, EM B cy 0 M0 151) H := by cases he; exact ha
theorem ini_152 {G : va_G} {B : Nat} {cy : Nat → ClassId} {H : Heap} (e : va_E) (he : (L8 B cy 0 ++ L9 B cy 119)[152]? = some e) (ha : va_at G vwCl (B + 152, e) H) : va_at G vwCl (B + 152, EM B cy 0 M0 152) H := by cases he; exact ha
theorem ini_153 {G : va_G} {B : Nat} {cy : Nat → ClassId} {H : Heap} (e : va_E) (he : (L8 B cy 0 ++ L9 B cy 119)[153]? = some e) (ha : va_at G vwCl (B + 153, e) H) : va_at G vwCl (B + 153, EM B cy 0 M0 153) H := by cases he; exact ha
theorem ini_154 {G : va_G} {B : Nat} {cy : Nat → ClassId} {H : Heap} (e : va_E) (he : (L8 B cy 0 ++ L9 B cy 119)[154]? = some e) (ha : va_at G vwCl (B + 154, e) H) : va_at G vwCl (B + 154, EM B cy 0 M0 154) H := by cases he; exact ha
theorem ini_155 {G : va_G} {B : Nat} {cy : Nat → ClassId} {H : Heap} (e : va_E) (he : (L8 B cy 0 ++ L9 B cy 119)[155]? = some e) (ha : va_at G vwCl (B + 155, e) H) : va_at G vwCl (B + 155, EM B cy 0 M0 155) H := by cases he; exact ha
theorem ini_156 {G : va_G} {B : Nat} {cy : Nat → ClassId} {H : Heap} (e : va_E) (he : (L8 B cy 0 ++ L9 B cy 119)[156]? = some e) (ha : va_at G vwCl (B + 156, e) H) : va_at G vwCl (B + 156, EM B cy 0 M0 156) H := by cases he; exact ha
theorem ini_157 {G : va_G} {B : Nat} {cy : Nat → ClassId} {H : Heap} (e : va_E) (he : (L8 B cy 0 ++ L9 B cy 119)[157]? = some e) (ha : va_at G vwCl (B + 157, e) H) : va_at G vwCl (B + 157, EM B cy 0 M0 157) H := by cases he; exact ha
theorem ini_158 {G : va_G} {B : Nat} {cy : Nat → ClassId} {H : Heap} (e : va_E) (he : (L8 B cy 0 ++ L9 B cy 119)[158]? = some e) (ha : va_at G vwCl (B + 158, e) H) : va_at G vwCl (B + 158, EM B cy 0 M0 158) H := by cases he; exact ha
theorem ini_159 {G : va_G} {B : Nat} {cy : Nat → ClassId} {H : Heap} (e : va_E) (he : (L8 B cy 0 ++ L9 B cy 119)[159]? = some e) (ha : va_at G vwCl (B + 159, e) H) : va_at G vwCl (B + 159, EM B cy 0 M0 159) H := by cases he; exact ha
theorem ini_160 {G : va_G} {B : Nat} {cy : Nat → ClassId} {H : Heap} (e : va_E) (he : (L8 B cy 0 ++ L9 B cy 119)[160]? = some e) (ha : va_at G vwCl (B + 160, e) H) : va_at G vwCl (B + 160, EM B cy 0 M0 160) H := by cases he; exact ha
theorem ini_161 {G : va_G} {B : Nat} {cy : Nat → ClassId} {H : Heap} (e : va_E) (he : (L8 B cy 0 ++ L9 B cy 119)[161]? = some e) (ha : va_at G vwCl (B + 161, e) H) : va_at G vwCl (B + 161, EM B cy 0 M0 161) H := by cases he; exact ha
theorem ini_162 {G : va_G} {B : Nat} {cy : Nat → ClassId} {H : Heap} (e : va_E) (he : (L8 B cy 0 ++ L9 B cy 119)[162]? = some e) (ha : va_at G vwCl (B + 162, e) H) : va_at G vwCl (B + 162, EM B cy 0 M0 162) H := by cases he; exact ha
theorem ini_163 {G : va_G} {B : Nat} {cy : Nat → ClassId} {H : Heap} (e : va_E) (he : (L8 B cy 0 ++ L9 B cy 119)[163]? = some e) (ha : va_at G vwCl (B + 163, e) H) : va_at G vwCl (B + 163, EM B cy 0 M0 163) H := by cases he; exact ha
theorem ini_164 {G : va_G} {B : Nat} {cy : Nat → ClassId} {H : Heap} (e : va_E) (he : (L8 B cy 0 ++ L9 B cy 119)[164]? = some e) (ha : va_at G vwCl (B + 164, e) H) : va_at G vwCl (B + 164, EM B cy 0 M0 164) H := by cases he; exact ha
theorem ini_165 {G : va_G} {B : Nat} {cy : Nat → ClassId} {H : Heap} (e : va_E) (he : (L8 B cy 0 ++ L9 B cy 119)[165]? = some e) (ha : va_at G vwCl (B + 165, e) H) : va_at G vwCl (B + 165, EM B cy 0 M0 165) H := by cases he; exact ha
theorem ini_166 {G : va_G} {B : Nat} {cy : Nat → ClassId} {H : Heap} (e : va_E) (he : (L8 B cy 0 ++ L9 B cy 119)[166]? = some e) (ha : va_at G vwCl (B + 166, e) H) : va_at G vwCl (B + 166, EM B cy 0 M0 166) H := by cases he; exact ha
theorem ini_167 {G : va_G} {B : Nat} {cy : Nat → ClassId} {H : Heap} (e : va_E) (he : (L8 B cy 0 ++ L9 B cy 119)[167]? = some e) (ha : va_at G vwCl (B + 167, e) H) : va_at G vwCl (B + 167, EM B cy 0 M0 167) H := by cases he; exact ha
theorem ini_168 {G : va_G} {B : Nat} {cy : Nat → ClassId} {H : Heap} (e : va_E) (he : (L8 B cy 0 ++ L9 B cy 119)[168]? = some e) (ha : va_at G vwCl (B + 168, e) H) : va_at G vwCl (B + 168, EM B cy 0 M0 168) H := by cases he; exact ha
theorem ini_169 {G : va_G} {B : Nat} {cy : Nat → ClassId} {H : Heap} (e : va_E) (he : (L8 B cy 0 ++ L9 B cy 119)[169]? = some e) (ha : va_at G vwCl (B + 169, e) H) : va_at G vwCl (B + 169, EM B cy 0 M0 169) H := by cases he; exact ha
theorem ini_170 {G : va_G} {B : Nat} {cy : Nat → ClassId} {H : Heap} (e : va_E) (he : (L8 B cy 0 ++ L9 B cy 119)[170]? = some e) (ha : va_at G vwCl (B + 170, e) H) : va_at G vwCl (B + 170, EM B cy 0 M0 170) H := by cases he; exact ha
theorem ini_171 {G : va_G} {B : Nat} {cy : Nat → ClassId} {H : Heap} (e : va_E) (he : (L8 B cy 0 ++ L9 B cy 119)[171]? = some e) (ha : va_at G vwCl (B + 171, e) H) : va_at G vwCl (B + 171, EM B cy 0 M0 171) H := by cases he; exact ha
theorem ini_172 {G : va_G} {B : Nat} {cy : Nat → ClassId} {H : Heap} (e : va_E) (he : (L8 B cy 0 ++ L9 B cy 119)[172]? = some e) (ha : va_at G vwCl (B + 172, e) H) : va_at G vwCl (B + 172, EM B cy 0 M0 172) H := by cases he; exact ha
theorem ini_173 {G : va_G} {B : Nat} {cy : Nat → ClassId} {H : Heap} (e : va_E) (he : (L8 B cy 0 ++ L9 B cy 119)[173]? = some e) (ha : va_at G vwCl (B + 173, e) H) : va_at G vwCl (B + 173, EM B cy 0 M0 173) H := by cases he; exact ha
theorem ini_174 {G : va_G} {B : Nat} {cy : Nat → ClassId} {H : Heap} (e : va_E) (he : (L8 B cy 0 ++ L9 B cy 119)[174]? = some e) (ha : va_at G vwCl (B + 174, e) H) : va_at G vwCl (B + 174, EM B cy 0 M0 174) H := by cases he; exact ha
theorem ini_175 {G : va_G} {B : Nat} {cy : Nat → ClassId} {H : Heap} (e : va_E) (he : (L8 B cy 0 ++ L9 B cy 119)[175]? = some e) (ha : va_at G vwCl (B + 175, e) H) : va_at G vwCl (B + 175, EM B cy 0 M0 175) H := by cases he; exact ha
theorem ini_176 {G : va_G} {B : Nat} {cy : Nat → ClassId} {H : Heap} (e : va_E) (he : (L8 B cy 0 ++ L9 B cy 119)[176]? = some e) (ha : va_at G vwCl (B + 176, e) H) : va_at G vwCl (B + 176, EM B cy 0 M0 176) H := by cases he; exact ha
theorem ini_177 {G : va_G} {B : Nat} {cy : Nat → ClassId} {H : Heap} (e : va_E) (he : (L8 B cy 0 ++ L9 B cy 119)[177]? = some e) (ha : va_at G vwCl (B + 177, e) H) : va_at G vwCl (B + 177, EM B cy 0 M0 177) H := by cases he; exact ha
theorem ini_178 {G : va_G} {B : Nat} {cy : Nat → ClassId} {H : Heap} (e : va_E) (he : (L8 B cy 0 ++ L9 B cy 119)[178]? = some e) (ha : va_at G vwCl (B + 178, e) H) : va_at G vwCl (B + 178, EM B cy 0 M0 178) H := by cases he; exact ha
theorem ini_179 {G : va_G} {B : Nat} {cy : Nat → ClassId} {H : Heap} (e : va_E) (he : (L8 B cy 0 ++ L9 B cy 119)[179]? = some e) (ha : va_at G vwCl (B + 179, e) H) : va_at G vwCl (B + 179, EM B cy 0 M0 179) H := by cases he; exact ha
theorem ini_180 {G : va_G} {B : Nat} {cy : Nat → ClassId} {H : Heap} (e : va_E) (he : (L8 B cy 0 ++ L9 B cy 119)[180]? = some e) (ha : va_at G vwCl (B + 180, e) H) : va_at G vwCl (B + 180, EM B cy 0 M0 180) H := by cases he; exact ha
theorem ini_181 {G : va_G} {B : Nat} {cy : Nat → ClassId} {H : Heap} (e : va_E) (he : (L8 B cy 0 ++ L9 B cy 119)[181]? = some e) (ha : va_at G vwCl (B + 181, e) H) : va_at G vwCl (B + 181, EM B cy 0 M0 181) H := by cases he; exact ha
theorem ini_182 {G : va_G} {B : Nat} {cy : Nat → ClassId} {H : Heap} (e : va_E) (he : (L8 B cy 0 ++ L9 B cy 119)[182]? = some e) (ha : va_at G vwCl (B + 182, e) H) : va_at G vwCl (B + 182, EM B cy 0 M0 182) H := by cases he; exact ha
theorem ini_183 {G : va_G} {B : Nat} {cy : Nat → ClassId} {H : Heap} (e : va_E) (he : (L8 B cy 0 ++ L9 B cy 119)[183]? = some e) (ha : va_at G vwCl (B + 183, e) H) : va_at G vwCl (B + 183, EM B cy 0 M0 183) H := by cases he; exact ha
theorem ini_184 {G : va_G} {B : Nat} {cy : Nat → ClassId} {H : Heap} (e : va_E) (he : (L8 B cy 0 ++ L9 B cy 119)[184]? = some e) (ha : va_at G vwCl (B + 184, e) H) : va_at G vwCl (B + 184, EM B cy 0 M0 184) H := by cases he; exact ha
theorem ini_185 {G : va_G} {B : Nat} {cy : Nat → ClassId} {H : Heap} (e : va_E) (he : (L8 B cy 0 ++ L9 B cy 119)[185]? = some e) (ha : va_at G vwCl (B + 185, e) H) : va_at G vwCl (B + 185, EM B cy 0 M0 185) H := by cases he; exact ha
theorem ini_186 {G : va_G} {B : Nat} {cy : Nat → ClassId} {H : Heap} (e : va_E) (he : (L8 B cy 0 ++ L9 B cy 119)[186]? = some e) (ha : va_at G vwCl (B + 186, e) H) : va_at G vwCl (B + 186, EM B cy 0 M0 186) H := by cases he; exact ha
theorem ini_187 {G : va_G} {B : Nat} {cy : Nat → ClassId} {H : Heap} (e : va_E) (he : (L8 B cy 0 ++ L9 B cy 119)[187]? = some e) (ha : va_at G vwCl (B + 187, e) H) : va_at G vwCl (B + 187, EM B cy 0 M0 187) H := by cases he; exact ha
theorem ini_188 {G : va_G} {B : Nat} {cy : Nat → ClassId} {H : Heap} (e : va_E) (he : (L8 B cy 0 ++ L9 B cy 119)[188]? = some e) (ha : va_at G vwCl (B + 188, e) H) : va_at G vwCl (B + 188, EM B cy 0 M0 188) H := by cases he; exact ha
set_option maxRecDepth 100000 in
theorem ini_all {G : va_G} {B : Nat} {cy : Nat → ClassId} {H : Heap} : ∀ q, q < 189 → ∀ e, (L8 B cy 0 ++ L9 B cy 119)[q]? = some e → va_at G vwCl (B + q, e) H → va_at G vwCl (B + q, EM B cy 0 M0 q) H := fun q hq => match q, hq with
  | 0, _ => ini_0
  | 1, _ => ini_1
  | 2, _ => ini_2
  | 3, _ => ini_3
  | 4, _ => ini_4
  | 5, _ => ini_5
  | 6, _ => ini_6
  | 7, _ => ini_7
  | 8, _ => ini_8
  | 9, _ => ini_9
  | 10, _ => ini_10
  | 11, _ => ini_11
  | 12, _ => ini_12
  | 13, _ => ini_13
  | 14, _ => ini_14
  | 15, _ => ini_15
  | 16, _ => ini_16
  | 17, _ => ini_17
  | 18, _ => ini_18
  | 19, _ => ini_19
  | 20, _ => ini_20
  | 21, _ => ini_21
  | 22, _ => ini_22
  | 23, _ => ini_23
  | 24, _ => ini_24
  | 25, _ => ini_25
  | 26, _ => ini_26
  | 27, _ => ini_27
  | 28, _ => ini_28
  | 29, _ => ini_29
  | 30, _ => ini_30
  | 31, _ => ini_31
  | 32, _ => ini_32
  | 33, _ => ini_33
  | 34, _ => ini_34
  | 35, _ => ini_35
  | 36, _ => ini_36
  | 37, _ => ini_37
  | 38, _ => ini_38
  | 39, _ => ini_39
  | 40, _ => ini_40
  | 41, _ => ini_41
  | 42, _ => ini_42
  | 43, _ => ini_43
  | 44, _ => ini_44
  | 45, _ => ini_45
  | 46, _ => ini_46
  | 47, _ => ini_47
  | 48, _ => ini_48
  | 49, _ => ini_49
  | 50, _ => ini_50
  | 51, _ => ini_51
  | 52, _ => ini_52
  | 53, _ => ini_53
  | 54, _ => ini_54
  | 55, _ => ini_55
  | 56, _ => ini_56
  | 57, _ => ini_57
  | 58, _ => ini_58
  | 59, _ => ini_59
  | 60, _ => ini_60
  | 61, _ => ini_61
  | 62, _ => ini_62
  | 63, _ => ini_63
  | 64, _ => ini_64
  | 65, _ => ini_65
  | 66, _ => ini_66
  | 67, _ => ini_67
  | 68, _ => ini_68
  | 69, _ => ini_69
  | 70, _ => ini_70
  | 71, _ => ini_71
  | 72, _ => ini_72
  | 73, _ => ini_73
  | 74, _ => ini_74
  | 75, _ => ini_75
  | 76, _ => ini_76
  | 77, _ => ini_77
  | 78, _ => ini_78
  | 79, _ => ini_79
  | 80, _ => ini_80
  | 81, _ => ini_81
  | 82, _ => ini_82
  | 83, _ => ini_83
  | 84, _ => ini_84
  | 85, _ => ini_85
  | 86, _ => ini_86
  | 87, _ => ini_87
  | 88, _ => ini_88
  | 89, _ => ini_89
  | 90, _ => ini_90
  | 91, _ => ini_91
  | 92, _ => ini_92
  | 93, _ => ini_93
  | 94, _ => ini_94
  | 95, _ => ini_95
  | 96, _ => ini_96
  | 97, _ => ini_97
  | 98, _ => ini_98
  | 99, _ => ini_99
  | 100, _ => ini_100
  | 101, _ => ini_101
  | 102, _ => ini_102
  | 103, _ => ini_103
  | 104, _ => ini_104
  | 105, _ => ini_105
  | 106, _ => ini_106
  | 107, _ => ini_107
  | 108, _ => ini_108
  | 109, _ => ini_109
  | 110, _ => ini_110
  | 111, _ => ini_111
  | 112, _ => ini_112
  | 113, _ => ini_113
  | 114, _ => ini_114
  | 115, _ => ini_115
  | 116, _ => ini_116
  | 117, _ => ini_117
  | 118, _ => ini_118
  | 119, _ => ini_119
  | 120, _ => ini_120
  | 121, _ => ini_121
  | 122, _ => ini_122
  | 123, _ => ini_123
  | 124, _ => ini_124
  | 125, _ => ini_125
  | 126, _ => ini_126
  | 127, _ => ini_127
  | 128, _ => ini_128
  | 129, _ => ini_129
  | 130, _ => ini_130
  | 131, _ => ini_131
  | 132, _ => ini_132
  | 133, _ => ini_133
  | 134, _ => ini_134
  | 135, _ => ini_135
  | 136, _ => ini_136
  | 137, _ => ini_137
  | 138, _ => ini_138
  | 139, _ => ini_139
  | 140, _ => ini_140
  | 141, _ => ini_141
  | 142, _ => ini_142
  | 143, _ => ini_143
  | 144, _ => ini_144
  | 145, _ => ini_145
  | 146, _ => ini_146
  | 147, _ => ini_147
  | 148, _ => ini_148
  | 149, _ => ini_149
  | 150, _ => ini_150
  | 151, _ => ini_151
  | 152, _ => ini_152
  | 153, _ => ini_153
  | 154, _ => ini_154
  | 155, _ => ini_155
  | 156, _ => ini_156
  | 157, _ => ini_157
  | 158, _ => ini_158
  | 159, _ => ini_159
  | 160, _ => ini_160
  | 161, _ => ini_161
  | 162, _ => ini_162
  | 163, _ => ini_163
  | 164, _ => ini_164
  | 165, _ => ini_165
  | 166, _ => ini_166
  | 167, _ => ini_167
  | 168, _ => ini_168
  | 169, _ => ini_169
  | 170, _ => ini_170
  | 171, _ => ini_171
  | 172, _ => ini_172
  | 173, _ => ini_173
  | 174, _ => ini_174
  | 175, _ => ini_175
  | 176, _ => ini_176
  | 177, _ => ini_177
  | 178, _ => ini_178
  | 179, _ => ini_179
  | 180, _ => ini_180
  | 181, _ => ini_181
  | 182, _ => ini_182
  | 183, _ => ini_183
  | 184, _ => ini_184
  | 185, _ => ini_185
  | 186, _ => ini_186
  | 187, _ => ini_187
  | 188, _ => ini_188
  | k + 189, h => absurd h (by omega)
theorem ini_pic {G : va_G} {B : Nat} {cy : Nat → ClassId} {H : Heap} (h : PT G B (L8 B cy 0 ++ L9 B cy 119) H) : Pic G B cy 0 M0 H := h.Pic rfl (fun q hq => ini_all q hq)
theorem arrT_of {s : State} {cA : ClassId} {k : Class} {comp : ClassId} {ty : FieldType} (h1 : s.vm.classes[cA]? = some k) (h2 : k.kind = .array comp ty) : ArrOfT s cA ty := fun n z => ⟨(fun q h => by cases h), k, h1, comp, h2⟩
set_option maxRecDepth 20000 in
theorem kn_entry {A : Array Value} {s : State} (hts : ∀ w ∈ lw_tbl, w.before A s = true) : ∃ (G : va_G) (cy : Nat → ClassId), Kn G cy s ∧ AO3 s := by
  have hA : ∀ w ∈ wsA, w.before A s = true := fun w h => hts w (wsA_in w h)
  obtain ⟨c0, i0, n0⟩ := u_known (C := RX0) (T := TX0) (N := 19) (n := 19) hA inA0 (hA _ k_118)
  obtain ⟨c1, i1, n1⟩ := u_known (C := RX1) (T := TX1) (N := 4) (n := 4) hA inA1 (hA _ k_28)
  obtain ⟨c2, i2, n2⟩ := u_known (C := RX2) (T := TX2) (N := 5) (n := 5) hA inA2 (hA _ k_105)
  obtain ⟨c3, i3, n3⟩ := u_known (C := RX3) (T := TX3) (N := 4) (n := 4) hA inA3 (hA _ k_89)
  obtain ⟨c4, i4, n4⟩ := u_known (C := RX4) (T := TX4) (N := 5) (n := 5) hA inA4 (hA _ k_77)
  obtain ⟨c5, i5, n5⟩ := u_known (C := RX5) (T := TX5) (N := 5) (n := 5) hA inA5 (hA _ k_22)
  obtain ⟨c6, i6, n6⟩ := u_known (C := RX6) (T := TX6) (N := 18) (n := 18) hA inA6 (hA _ k_292)
  obtain ⟨c7, i7, n7⟩ := u_known (C := RX7) (T := TX7) (N := 5) (n := 5) hA inA7 (hA _ k_60)
  obtain ⟨c8, i8, n8⟩ := u_known (C := RX8) (T := TX8) (N := 14) (n := 14) hA inA8 (hA _ k_14)
  obtain ⟨c9, i9, n9⟩ := u_known (C := RX9) (T := TX9) (N := 82) (n := 82) hA inA9 (hA _ k_550)
  obtain ⟨a0, k0, p0, x0, y0, z0⟩ := Cond.arrayClass_spec (hA _ k_47)
  obtain ⟨a1, k1, p1, x1, y1, z1⟩ := Cond.arrayClass_spec (hA _ k_48)
  obtain ⟨a2, k2, p2, x2, y2, z2⟩ := Cond.arrayClass_spec (hA _ k_637)
  have o3 := hts _ (mem_t1 _ (List.mem_of_getElem? (i := 154) rfl))
  obtain ⟨p3, a3, k3, w3, -, x3, y3, z3⟩ := Cond.arrayOver_spec o3
  have o4 := hts _ (mem_t1 _ (List.mem_of_getElem? (i := 156) rfl))
  obtain ⟨p4, a4, k4, w4, -, x4, y4, z4⟩ := Cond.arrayOver_spec o4
  have o5 := hts _ (mem_t1 _ (List.mem_of_getElem? (i := 158) rfl))
  obtain ⟨p5, a5, k5, w5, -, x5, y5, z5⟩ := Cond.arrayOver_spec o5
  refine ⟨(fun k => if k = 0 then c0 else if k = 1 then c1 else if k = 2 then c2 else if k = 3 then c3 else if k = 4 then c4 else if k = 5 then c5 else if k = 6 then c6 else if k = 7 then c7 else if k = 8 then c8 else c9, fun k => if k = 0 then i0 else if k = 1 then i1 else if k = 2 then i2 else if k = 3 then i3 else if k = 4 then i4 else if k = 5 then i5 else if k = 6 then i6 else if k = 7 then i7 else if k = 8 then i8 else i9), fun k => if k = 0 then a0 else if k = 1 then a1 else if k = 2 then a2 else if k = 3 then a3 else if k = 4 then a4 else a5, ⟨⟨?_, ?_⟩, ?_⟩, va_AO.of o3, va_AO.of o4, va_AO.of o5⟩
  · intro k q hq
    match k, hq with
    | 0, hq => cases hq; exact n0
    | 1, hq => cases hq; exact n1
    | 2, hq => cases hq; exact n2
    | 3, hq => cases hq; exact n3
    | 4, hq => cases hq; exact n4
    | 5, hq => cases hq; exact n5
    | 6, hq => cases hq; exact n6
    | 7, hq => cases hq; exact n7
    | 8, hq => cases hq; exact n8
    | 9, hq => cases hq; exact n9
    | k + 10, hq => simp [vwCl] at hq
  · intro k q hq
    match k, hq with
    | 0, hq => cases hq; exact ⟨arrT_of y0 z0, x0⟩
    | 1, hq => cases hq; exact ⟨arrT_of y1 z1, x1⟩
    | 2, hq => cases hq; exact ⟨arrT_of y2 z2, x2⟩
    | 3, hq => cases hq; exact ⟨arrT_of x3 y3, k3, p3, x3, y3, w3, z3⟩
    | 4, hq => cases hq; exact ⟨arrT_of x4 y4, k4, p4, x4, y4, w4, z4⟩
    | 5, hq => cases hq; exact ⟨arrT_of x5 y5, k5, p5, x5, y5, w5, z5⟩
    | k + 6, hq => simp [tysOf] at hq
  · intro q hq
    refine va_Nw.of rfl (A := A) (hts _ ?_)
    unfold nestT at hq
    simp only [List.mem_cons, List.not_mem_nil, or_false] at hq
    rcases hq with rfl | rfl | rfl | rfl | rfl | rfl | rfl | rfl | rfl | rfl | rfl | rfl | rfl | rfl
    · exact k_61
    · exact k_78
    · exact k_90
    · exact k_106
    · exact k_260
    · exact k_261
    · exact k_281
    · exact k_282
    · exact k_283
    · exact k_360
    · exact k_389
    · exact k_402
    · exact k_451
    · exact k_474

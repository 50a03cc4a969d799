/-! Long.bitCount -/
def uN (x : Int64) : Nat := x.toUInt64.toNat
theorem uN_lt (x : Int64) : uN x < 18446744073709551616 := x.toUInt64.toNat_lt
theorem uN_add (x y : Int64) : uN (x + y) = (uN x + uN y) % 18446744073709551616 := by
  show (x.toUInt64 + y.toUInt64).toNat = _
  exact UInt64.toNat_add _ _
theorem uN_and (x y : Int64) : uN (x &&& y) = uN x &&& uN y := by
  show (x.toUInt64 &&& y.toUInt64).toNat = _
  exact UInt64.toNat_and _ _
theorem uN_sub {x y : Int64} (h : uN y ≤ uN x) : uN (x - y) = uN x - uN y := by
  show (x.toUInt64 - y.toUInt64).toNat = _
  exact UInt64.toNat_sub_of_le _ _ (UInt64.le_iff_toNat_le.mpr h)
theorem uN_shr (x : Int64) (s : UInt64) : uN (x.toUInt64 >>> s).toInt64 = uN x / 2 ^ (s.toNat % 64) := by
  show (x.toUInt64 >>> s).toNat = _
  rw [UInt64.toNat_shiftRight, Nat.shiftRight_eq_div_pow]
  rfl
theorem uN_us : ∀ k, k < 64 → ∀ x, uN (ushrL x (nI k)) = uN x / 2 ^ k := by
  intro k hk x
  unfold ushrL
  rw [uN_shr]
  have : ∀ k, k < 64 → ((nI k).toInt64.toUInt64 &&& Int64.toUInt64 63).toNat % 64 = k := by decide +kernel
  rw [this k hk]
theorem nand (x y : Nat) {b m : Nat} (hb : b < 256) (hm : m < 256) : (256 * x + b) &&& (256 * y + m) = 256 * (x &&& y) + (b &&& m) := by
  have hbm : b &&& m < 2 ^ 8 := Nat.lt_of_le_of_lt Nat.and_le_left hb
  apply Nat.eq_of_testBit_eq
  intro i
  have h1 := Nat.testBit_two_pow_mul_add x (b := b) (i := 8) hb i
  have h2 := Nat.testBit_two_pow_mul_add y (b := m) (i := 8) hm i
  have h3 := Nat.testBit_two_pow_mul_add (x &&& y) (b := b &&& m) (i := 8) hbm i
  rw [show (2 : Nat) ^ 8 = 256 from rfl] at h1 h2 h3
  rw [Nat.testBit_and, h1, h2, h3]
  by_cases hi : i < 8
  · simp [hi]
  · simp [hi]
def rep (m : Nat) : Nat → Nat
  | 0 => 0
  | k + 1 => 256 * rep m k + m
def bs (f : Nat → Nat) : Nat → Nat → Nat
  | 0, _ => 0
  | k + 1, n => 256 * bs f k (n / 256) + f (n % 256)
theorem bs_comp (f g : Nat → Nat) (hg : ∀ b, b < 256 → g b < 256) : ∀ k n, bs f k (bs g k n) = bs (fun b => f (g b)) k n
  | 0, _ => rfl
  | k + 1, n => by
    have h := hg (n % 256) (Nat.mod_lt _ (by decide))
    show 256 * bs f k ((256 * bs g k (n / 256) + g (n % 256)) / 256) + f ((256 * bs g k (n / 256) + g (n % 256)) % 256) = 256 * bs (fun b => f (g b)) k (n / 256) + f (g (n % 256))
    rw [show (256 * bs g k (n / 256) + g (n % 256)) / 256 = bs g k (n / 256) by omega, show (256 * bs g k (n / 256) + g (n % 256)) % 256 = g (n % 256) by omega, bs_comp f g hg k]
def pA (b : Nat) : Nat := b - ((b / 2) &&& 85)
def pB (b : Nat) : Nat := (b &&& 51) + ((b / 4) &&& 51)
def pC (b : Nat) : Nat := (b + b / 16) % 16
theorem tA : ∀ b, b < 256 → ∀ c, c < 2 → (b / 2 + 128 * c) &&& 85 = (b / 2) &&& 85 := by decide +kernel
theorem tB : ∀ b, b < 256 → ∀ c, c < 4 → (b / 4 + 64 * c) &&& 51 = (b / 4) &&& 51 := by decide +kernel
theorem tA2 : ∀ b, b < 256 → pA b < 256 := by decide +kernel
theorem tB2 : ∀ b, b < 256 → pB (pA b) % 16 ≤ 4 ∧ pB (pA b) / 16 ≤ 4 ∧ pB (pA b) < 256 := by decide +kernel
theorem tP : ∀ b, b < 256 → pC (pB (pA b)) = (b.testBit 0).toNat + (b.testBit 1).toNat + (b.testBit 2).toNat + (b.testBit 3).toNat + (b.testBit 4).toNat + (b.testBit 5).toNat + (b.testBit 6).toNat + (b.testBit 7).toNat := by decide +kernel
theorem swA : ∀ k n, n < 256 ^ k → ((n / 2) &&& rep 85 k) ≤ n ∧ n - ((n / 2) &&& rep 85 k) = bs pA k n
  | 0, n, h => by
    have : n = 0 := by simpa using h
    subst this
    exact ⟨by simp [rep], rfl⟩
  | k + 1, n, h => by
    have hn : n / 256 < 256 ^ k := by
      rw [Nat.div_lt_iff_lt_mul (by decide)]
      rw [Nat.pow_succ] at h
      exact h
    obtain ⟨i1, i2⟩ := swA k (n / 256) hn
    have hb : n % 256 < 256 := Nat.mod_lt _ (by decide)
    have e : n / 2 = 256 * (n / 256 / 2) + (n % 256 / 2 + 128 * (n / 256 % 2)) := by omega
    have hand : (n / 2) &&& rep 85 (k + 1) = 256 * ((n / 256 / 2) &&& rep 85 k) + ((n % 256 / 2) &&& 85) := by
      show (n / 2) &&& (256 * rep 85 k + 85) = _
      rw [e, nand _ _ (by omega) (by decide), tA _ hb _ (Nat.mod_lt _ (by decide))]
    have hle : (n % 256 / 2) &&& 85 ≤ n % 256 := Nat.le_trans Nat.and_le_left (Nat.div_le_self _ _)
    rw [hand]
    refine ⟨by omega, ?_⟩
    show _ = 256 * bs pA k (n / 256) + pA (n % 256)
    rw [← i2]
    unfold pA
    omega
theorem swB : ∀ k n, n < 256 ^ k → (n &&& rep 51 k) + ((n / 4) &&& rep 51 k) = bs pB k n
  | 0, n, h => by
    have : n = 0 := by simpa using h
    subst this
    rfl
  | k + 1, n, h => by
    have hn : n / 256 < 256 ^ k := by
      rw [Nat.div_lt_iff_lt_mul (by decide)]
      rw [Nat.pow_succ] at h
      exact h
    have i2 := swB k (n / 256) hn
    have hb : n % 256 < 256 := Nat.mod_lt _ (by decide)
    have e : n / 4 = 256 * (n / 256 / 4) + (n % 256 / 4 + 64 * (n / 256 % 4)) := by omega
    have e0 : n = 256 * (n / 256) + n % 256 := by omega
    have h1 : (n / 4) &&& rep 51 (k + 1) = 256 * ((n / 256 / 4) &&& rep 51 k) + ((n % 256 / 4) &&& 51) := by
      show (n / 4) &&& (256 * rep 51 k + 51) = _
      rw [e, nand _ _ (by omega) (by decide), tB _ hb _ (Nat.mod_lt _ (by decide))]
    have h2 : n &&& rep 51 (k + 1) = 256 * ((n / 256) &&& rep 51 k) + ((n % 256) &&& 51) := by
      show n &&& (256 * rep 51 k + 51) = _
      rw [← nand _ _ hb (by decide), ← e0]
    rw [h1, h2]
    show _ = 256 * bs pB k (n / 256) + pB (n % 256)
    rw [← i2]
    unfold pB
    omega
/-- every byte has nibbles of 4 at most -/
def nib : Nat → Nat → Prop
  | 0, _ => True
  | k + 1, n => n % 256 % 16 ≤ 4 ∧ n % 256 / 16 ≤ 4 ∧ nib k (n / 256)
theorem swC : ∀ k n, n < 256 ^ k → nib k n → (n + n / 16) &&& rep 15 k = bs pC k n
  | 0, n, h, _ => by simp [rep, bs]
  | k + 1, n, h, hn0 => by
    have hn : n / 256 < 256 ^ k := by
      rw [Nat.div_lt_iff_lt_mul (by decide)]
      rw [Nat.pow_succ] at h
      exact h
    obtain ⟨j1, j2, j3⟩ := hn0
    have hlow : n / 256 % 16 ≤ 4 := by
      cases k with
      | zero =>
        have : n / 256 = 0 := by simpa using hn
        omega
      | succ k => obtain ⟨z, -⟩ := j3; omega
    have i2 := swC k (n / 256) hn j3
    have e : n + n / 16 = 256 * (n / 256 + n / 256 / 16) + (n % 256 + n % 256 / 16 + 16 * (n / 256 % 16)) := by omega
    show (n + n / 16) &&& (256 * rep 15 k + 15) = 256 * bs pC k (n / 256) + pC (n % 256)
    rw [e, nand _ _ (by omega) (by decide), i2]
    have : ∀ z : Nat, z &&& 15 = z % 16 := fun z => Nat.and_two_pow_sub_one_eq_mod z 4
    rw [this]
    unfold pC
    omega
theorem bs_lt (f : Nat → Nat) (hf : ∀ b, b < 256 → f b < 256) : ∀ k n, bs f k n < 256 ^ k
  | 0, _ => by simp [bs]
  | k + 1, n => by
    have h := bs_lt f hf k (n / 256)
    have h2 := hf (n % 256) (Nat.mod_lt _ (by decide))
    show 256 * bs f k (n / 256) + f (n % 256) < 256 ^ (k + 1)
    rw [Nat.pow_succ]
    omega
theorem nib_bs : ∀ k n, nib k (bs (fun b => pB (pA b)) k n)
  | 0, _ => trivial
  | k + 1, n => by
    have h := tB2 (n % 256) (Nat.mod_lt _ (by decide))
    show (256 * bs (fun b => pB (pA b)) k (n / 256) + pB (pA (n % 256))) % 256 % 16 ≤ 4 ∧ (256 * bs (fun b => pB (pA b)) k (n / 256) + pB (pA (n % 256))) % 256 / 16 ≤ 4 ∧ nib k ((256 * bs (fun b => pB (pA b)) k (n / 256) + pB (pA (n % 256))) / 256)
    rw [show (256 * bs (fun b => pB (pA b)) k (n / 256) + pB (pA (n % 256))) % 256 = pB (pA (n % 256)) by omega, show (256 * bs (fun b => pB (pA b)) k (n / 256) + pB (pA (n % 256))) / 256 = bs (fun b => pB (pA b)) k (n / 256) by omega]
    exact ⟨h.1, h.2.1, nib_bs k _⟩
def pp (b : Nat) : Nat := pC (pB (pA b))
theorem pp_le : ∀ b, b < 256 → pp b ≤ 8 := by decide +kernel
/-- how many of the first k bits are set -/
def cb (w : Int64) : Nat → Nat
  | 0 => 0
  | k + 1 => cb w k + (bt w k).toNat
theorem bt_uN (w : Int64) (c : Nat) : bt w c = (uN w).testBit c := rfl
theorem cb_byte (w : Int64) (i : Nat) : cb w (8 * i + 8) = cb w (8 * i) + pp (uN w / 256 ^ i % 256) := by
  have hb : uN w / 256 ^ i % 256 < 256 := Nat.mod_lt _ (by decide)
  have ht : ∀ j, j < 8 → (uN w / 256 ^ i % 256).testBit j = bt w (8 * i + j) := fun j hj => by
    rw [bt_uN, show (256 : Nat) = 2 ^ 8 from rfl, ← Nat.pow_mul, Nat.testBit_mod_two_pow, Nat.testBit_div_two_pow]
    simp [hj, Nat.add_comm]
  show cb w (8 * i) + (bt w (8 * i)).toNat + (bt w (8 * i + 1)).toNat + (bt w (8 * i + 2)).toNat + (bt w (8 * i + 3)).toNat + (bt w (8 * i + 4)).toNat + (bt w (8 * i + 5)).toNat + (bt w (8 * i + 6)).toNat + (bt w (8 * i + 7)).toNat = _
  unfold pp
  rw [tP _ hb, ht 0 (by decide), ht 1 (by decide), ht 2 (by decide), ht 3 (by decide), ht 4 (by decide), ht 5 (by decide), ht 6 (by decide), ht 7 (by decide)]
  simp only [Nat.add_zero]
  omega
theorem bs_rep (f : Nat → Nat) (m : Nat) (hf : ∀ b, b < 256 → f b ≤ m) : ∀ k n, bs f k n ≤ rep m k
  | 0, _ => Nat.le_refl 0
  | k + 1, n => by
    have h := bs_rep f m hf k (n / 256)
    have h2 := hf (n % 256) (Nat.mod_lt _ (by decide))
    show 256 * bs f k (n / 256) + f (n % 256) ≤ 256 * rep m k + m
    omega
theorem popS {x0 x1 x2 x3 x4 x5 x6 x7 v3 v4 v5 v6 : Nat} (p0 : x0 ≤ 8) (p1 : x1 ≤ 8) (p2 : x2 ≤ 8) (p3 : x3 ≤ 8) (p4 : x4 ≤ 8) (p5 : x5 ≤ 8) (p6 : x6 ≤ 8) (p7 : x7 ≤ 8)
    (u3 : v3 = 256 * (256 * (256 * (256 * (256 * (256 * (256 * (256 * 0 + x7) + x6) + x5) + x4) + x3) + x2) + x1) + x0)
    (u4 : v4 = (v3 + v3 / 256) % 18446744073709551616) (u5 : v5 = (v4 + v4 / 65536) % 18446744073709551616) (u6 : v6 = (v5 + v5 / 4294967296) % 18446744073709551616) :
    v6 % 256 = x0 + x1 + x2 + x3 + x4 + x5 + x6 + x7 := by
  generalize e7 : 256 * 0 + x7 = T7 at u3
  generalize e6 : 256 * T7 + x6 = T6 at u3
  generalize e5 : 256 * T6 + x5 = T5 at u3
  generalize e4 : 256 * T5 + x4 = T4 at u3
  generalize e3 : 256 * T4 + x3 = T3 at u3
  generalize e2 : 256 * T3 + x2 = T2 at u3
  generalize e1 : 256 * T2 + x1 = T1 at u3
  have b7 : T7 ≤ 8 := by omega
  have b6 : T6 ≤ 2056 := by omega
  have b5 : T5 ≤ 526344 := by omega
  have b4 : T4 ≤ 134744072 := by omega
  have b3 : T3 ≤ 34494482440 := by omega
  have b2 : T2 ≤ 8830587504648 := by omega
  have b1 : T1 ≤ 2260630401189896 := by omega
  have b0 : v3 ≤ 578721382704613384 := by omega
  have d3 : v3 / 256 = T1 := by clear e7 e6 e5 e4 e3 e2 e1; omega
  have f4 : v4 = 65536 * (T2 + T3) + (256 * (x1 + x2) + (x0 + x1)) := by
    rw [u4, d3, Nat.mod_eq_of_lt (by clear e7 e6 e5 e4 e3 e2 e1; omega), u3, ← e1, ← e2]
    clear e7 e6 e5 e4 e3 e2 e1
    omega
  have d4 : v4 / 65536 = T2 + T3 := by rw [f4]; clear e7 e6 e5 e4 e3 e2 e1 u3 u4 u5 u6; omega
  have f23 : T2 + T3 = 65536 * (T4 + T5) + (256 * (x3 + x4) + (x2 + x3)) := by
    rw [← e2, ← e3, ← e4]
    clear e7 e6 e5 e4 e3 e2 e1
    omega
  have f45 : T4 + T5 = 65536 * (T6 + T7) + (256 * (x5 + x6) + (x4 + x5)) := by
    rw [← e4, ← e5, ← e6]
    clear e7 e6 e5 e4 e3 e2 e1
    omega
  have f5 : v5 = 4294967296 * (T4 + T5 + T6 + T7) + (65536 * (256 * (x3 + x4 + x5 + x6) + (x2 + x3 + x4 + x5)) + (256 * (x1 + x2 + x3 + x4) + (x0 + x1 + x2 + x3))) := by
    rw [u5, d4, Nat.mod_eq_of_lt (by rw [f4]; clear e7 e6 e5 e4 e3 e2 e1 u3 u4 u5 u6 f4 f23 f45; omega), f4, f23]
    clear e7 e6 e5 e4 e3 e2 e1 u3 u4 u5 u6 f4 f23
    omega
  have d5 : v5 / 4294967296 = T4 + T5 + T6 + T7 := by rw [f5]; clear e7 e6 e5 e4 e3 e2 e1 u3 u4 u5 u6 f4 f5 f23 f45; omega
  have q6 : v5 + (T4 + T5 + T6 + T7) < 18446744073709551616 := by rw [f5]; clear e7 e6 e5 e4 e3 e2 e1 u3 u4 u5 u6 f4 f5 f23 f45; omega
  rw [u6, d5, Nat.mod_eq_of_lt q6, f5]
  clear u3 u4 u5 u6 f4 f5 f23 f45 d3 d4 d5 b0 b1 b2 b3 e1 e2 e3 b4
  omega
theorem sm16 {n : Nat} (h : n ≤ 4919131752989213764) : n + n / 16 < 18446744073709551616 := by omega
theorem le64 {x0 x1 x2 x3 x4 x5 x6 x7 : Nat} (p0 : x0 ≤ 8) (p1 : x1 ≤ 8) (p2 : x2 ≤ 8) (p3 : x3 ≤ 8) (p4 : x4 ≤ 8) (p5 : x5 ≤ 8) (p6 : x6 ≤ 8) (p7 : x7 ≤ 8) : x0 + x1 + x2 + x3 + x4 + x5 + x6 + x7 ≤ 64 := by omega
theorem popC (w : Int64) : f_J13_bitCount_95d88 w = some (nI (cb w 64)) := by
  unfold f_J13_bitCount_95d88
  simp only [lt_v]
  have hn := uN_lt w
  have hn' : uN w < 256 ^ 8 := hn
  have r5 : uN 6148914691236517205 = rep 85 8 := by decide +kernel
  have r3 : uN 3689348814741910323 = rep 51 8 := by decide +kernel
  have rf : uN 1085102592571150095 = rep 15 8 := by decide +kernel
  obtain ⟨a1, a2⟩ := swA 8 (uN w) hn'
  generalize h1 : w - (ushrL w 1 &&& 6148914691236517205) = v1
  have u0 : uN (ushrL w 1 &&& 6148914691236517205) = (uN w / 2) &&& rep 85 8 := by
    rw [uN_and, r5, show ushrL w 1 = ushrL w (nI 1) from rfl, uN_us 1 (by decide)]
  have u1 : uN v1 = bs pA 8 (uN w) := by
    rw [← h1, uN_sub (by rw [u0]; exact a1), u0, a2]
  have b1 : uN v1 < 256 ^ 8 := uN_lt v1
  generalize h2 : (v1 &&& 3689348814741910323) + (ushrL v1 2 &&& 3689348814741910323) = v2
  have u2 : uN v2 = bs (fun b => pB (pA b)) 8 (uN w) := by
    have e := swB 8 (uN v1) b1
    rw [u1, bs_comp pB pA tA2] at e
    rw [← h2, uN_add, uN_and, uN_and, r3, show ushrL v1 2 = ushrL v1 (nI 2) from rfl, uN_us 2 (by decide), u1, e]
    exact Nat.mod_eq_of_lt (bs_lt _ (fun b hb => (tB2 b hb).2.2) 8 _)
  have b2 : uN v2 < 256 ^ 8 := uN_lt v2
  generalize h3 : (v2 + ushrL v2 4) &&& 1085102592571150095 = v3
  have u3 : uN v3 = bs pp 8 (uN w) := by
    have hnb : nib 8 (uN v2) := by rw [u2]; exact nib_bs 8 _
    have e := swC 8 (uN v2) b2 hnb
    have hsm : uN v2 + uN v2 / 16 < 18446744073709551616 := by
      have h := bs_rep (fun b => pB (pA b)) 68 (fun b hb => by have := tB2 b hb; show pB (pA b) ≤ 68; omega) 8 (uN w)
      rw [← u2, show rep 68 8 = 4919131752989213764 from rfl] at h
      exact sm16 h
    rw [← h3, uN_and, uN_add, show ushrL v2 4 = ushrL v2 (nI 4) from rfl, uN_us 4 (by decide), rf, show (2 : Nat) ^ 4 = 16 from rfl, Nat.mod_eq_of_lt hsm, e, u2, bs_comp pC (fun b => pB (pA b)) (fun b hb => (tB2 b hb).2.2)]
    rfl
  generalize h4 : v3 + ushrL v3 8 = v4
  generalize h5 : v4 + ushrL v4 16 = v5
  generalize h6 : v5 + ushrL v5 32 = v6
  have p0 := pp_le (uN w / 256 ^ 0 % 256) (Nat.mod_lt _ (by decide))
  have p1 := pp_le (uN w / 256 ^ 1 % 256) (Nat.mod_lt _ (by decide))
  have p2 := pp_le (uN w / 256 ^ 2 % 256) (Nat.mod_lt _ (by decide))
  have p3 := pp_le (uN w / 256 ^ 3 % 256) (Nat.mod_lt _ (by decide))
  have p4 := pp_le (uN w / 256 ^ 4 % 256) (Nat.mod_lt _ (by decide))
  have p5 := pp_le (uN w / 256 ^ 5 % 256) (Nat.mod_lt _ (by decide))
  have p6 := pp_le (uN w / 256 ^ 6 % 256) (Nat.mod_lt _ (by decide))
  have p7 := pp_le (uN w / 256 ^ 7 % 256) (Nat.mod_lt _ (by decide))
  have ex : bs pp 8 (uN w) = 256 * (256 * (256 * (256 * (256 * (256 * (256 * (256 * 0 + pp (uN w / 256 ^ 7 % 256)) + pp (uN w / 256 ^ 6 % 256)) + pp (uN w / 256 ^ 5 % 256)) + pp (uN w / 256 ^ 4 % 256)) + pp (uN w / 256 ^ 3 % 256)) + pp (uN w / 256 ^ 2 % 256)) + pp (uN w / 256 ^ 1 % 256)) + pp (uN w / 256 ^ 0 % 256) := by
    simp only [bs, Nat.div_div_eq_div_mul, Nat.pow_zero, Nat.div_one, show (256 : Nat) ^ 1 = 256 from rfl, show (256 : Nat) ^ 2 = 256 * 256 from rfl, show (256 : Nat) ^ 3 = 256 * 256 * 256 from rfl, show (256 : Nat) ^ 4 = 256 * 256 * 256 * 256 from rfl, show (256 : Nat) ^ 5 = 256 * 256 * 256 * 256 * 256 from rfl, show (256 : Nat) ^ 6 = 256 * 256 * 256 * 256 * 256 * 256 from rfl, show (256 : Nat) ^ 7 = 256 * 256 * 256 * 256 * 256 * 256 * 256 from rfl]
  have cc : cb w 64 = pp (uN w / 256 ^ 0 % 256) + pp (uN w / 256 ^ 1 % 256) + pp (uN w / 256 ^ 2 % 256) + pp (uN w / 256 ^ 3 % 256) + pp (uN w / 256 ^ 4 % 256) + pp (uN w / 256 ^ 5 % 256) + pp (uN w / 256 ^ 6 % 256) + pp (uN w / 256 ^ 7 % 256) := by
    rw [show cb w 64 = cb w (8 * 7 + 8) from rfl, cb_byte w 7, show cb w (8 * 7) = cb w (8 * 6 + 8) from rfl, cb_byte w 6, show cb w (8 * 6) = cb w (8 * 5 + 8) from rfl, cb_byte w 5, show cb w (8 * 5) = cb w (8 * 4 + 8) from rfl, cb_byte w 4, show cb w (8 * 4) = cb w (8 * 3 + 8) from rfl, cb_byte w 3, show cb w (8 * 3) = cb w (8 * 2 + 8) from rfl, cb_byte w 2, show cb w (8 * 2) = cb w (8 * 1 + 8) from rfl, cb_byte w 1, show cb w (8 * 1) = cb w (8 * 0 + 8) from rfl, cb_byte w 0]
    show 0 + _ + _ + _ + _ + _ + _ + _ + _ = _
    rw [Nat.zero_add]
  rw [ex] at u3
  have u4 : uN v4 = (uN v3 + uN v3 / 256) % 18446744073709551616 := by
    rw [← h4, uN_add, show ushrL v3 8 = ushrL v3 (nI 8) from rfl, uN_us 8 (by decide)]
  have u5 : uN v5 = (uN v4 + uN v4 / 65536) % 18446744073709551616 := by
    rw [← h5, uN_add, show ushrL v4 16 = ushrL v4 (nI 16) from rfl, uN_us 16 (by decide)]
  have u6 : uN v6 = (uN v5 + uN v5 / 4294967296) % 18446744073709551616 := by
    rw [← h6, uN_add, show ushrL v5 32 = ushrL v5 (nI 32) from rfl, uN_us 32 (by decide)]
  have w6 := popS p0 p1 p2 p3 p4 p5 p6 p7 u3 u4 u5 u6
  rw [← cc] at w6
  have hx : cb w 64 ≤ 64 := by rw [cc]; exact le64 p0 p1 p2 p3 p4 p5 p6 p7
  clear u0 u1 u2 u3 u4 u5 u6 a1 a2 h1 h2 h3 h4 h5 h6 b1 b2 r5 r3 rf ex hn hn' cc p0 p1 p2 p3 p4 p5 p6 p7
  apply congrArg some
  have e7 : Int64.toInt32 v6 &&& 127 = nI ((Int64.toInt32 v6).toBitVec.toNat % 2 ^ 7) := pk_and _ (m := 127) 7 (by decide +kernel)
  have e8 : (Int64.toInt32 v6).toBitVec.toNat = uN v6 % 4294967296 := by
    show (v6.toBitVec.signExtend 32).toNat = v6.toBitVec.toNat % 4294967296
    rw [BitVec.signExtend_eq_setWidth_of_le _ (by decide), BitVec.toNat_setWidth]
  rw [e7, e8]
  congr 1
  omega

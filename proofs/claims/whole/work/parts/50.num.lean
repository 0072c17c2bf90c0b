/-! 50: numbers: Int32 as places (zI), bounds of sums and products of Int64, reads of a state behind writes. -/
def zI (i : Nat) : Int32 := Int32.ofNat i
theorem zI_toInt {i : Nat} (h : i < 2147483648) : (zI i).toInt = (i : Int) := Int32.toInt_ofNat_of_lt h
theorem zI_nat {i : Nat} (h : i < 2147483648) : (zI i).toNatClampNeg = i := Int32.toNatClampNeg_ofNat_of_lt h
theorem zI_add (i j : Nat) : zI i + zI j = zI (i + j) := (Int32.ofNat_add i j).symm
theorem zI_mul (i j : Nat) : zI i * zI j = zI (i * j) := (Int32.ofNat_mul i j).symm
theorem zI_le {a b : Nat} (ha : a < 2147483648) (hb : b < 2147483648) : (zI a ≤ zI b) = (a ≤ b) := by
  rw [Int32.le_iff_toInt_le, zI_toInt ha, zI_toInt hb]
  exact propext Int.ofNat_le
theorem zI_lt {a b : Nat} (ha : a < 2147483648) (hb : b < 2147483648) : (zI a < zI b) = (a < b) := by
  rw [Int32.lt_iff_toInt_lt, zI_toInt ha, zI_toInt hb]
  exact propext Int.ofNat_lt
theorem zI_eq {a b : Nat} (ha : a < 2147483648) (hb : b < 2147483648) : (zI a = zI b) = (a = b) := by
  apply propext
  constructor
  · intro h
    have h2 := congrArg Int32.toInt h
    rw [zI_toInt ha, zI_toInt hb] at h2
    omega
  · intro h
    rw [h]
theorem zI_le_t {a b : Nat} (h : a ≤ b) (hb : b < 2147483648) : (zI a ≤ zI b) = True := by
  rw [zI_le (by omega) hb]
  exact eq_true h
theorem zI_le_f {a b : Nat} (h : b < a) (hb : a < 2147483648) : (zI a ≤ zI b) = False := by
  rw [zI_le hb (by omega)]
  exact eq_false (by omega)
theorem zI_lt_t {a b : Nat} (h : a < b) (hb : b < 2147483648) : (zI a < zI b) = True := by
  rw [zI_lt (by omega) hb]
  exact eq_true h
theorem zI_lt_f {a b : Nat} (h : b ≤ a) (hb : a < 2147483648) : (zI a < zI b) = False := by
  rw [zI_lt hb (by omega)]
  exact eq_false (by omega)
theorem zI_eq_f {a b : Nat} (h : a ≠ b) (ha : a < 2147483648) (hb : b < 2147483648) : (zI a = zI b) = False := by
  rw [zI_eq ha hb]
  exact eq_false h
theorem zI_neg1 {a : Nat} (ha : a < 2147483648) : (zI a = (-1 : Int32)) = False := by
  apply eq_false
  intro h
  have h2 := congrArg Int32.toInt h
  rw [zI_toInt ha] at h2
  have h3 : (-1 : Int32).toInt = -1 := by decide
  omega
theorem zI_neg1l : ((-1 : Int32) < zI 0) = True := by decide
theorem zin_zI {i n : Nat} (h : i < n) (hn : n < 2147483648) : zin (zI i) n = true := by
  unfold zin
  rw [zI_nat (by omega)]
  have h0 : ¬ zI i < 0 := by
    rw [show (0 : Int32) = zI 0 from rfl, zI_lt (by omega) (by omega)]
    omega
  simp [h0, h]
theorem zn0 : (0 : Int32) = zI 0 := rfl
theorem zn1 : (1 : Int32) = zI 1 := rfl
theorem zn2 : (2 : Int32) = zI 2 := rfl
theorem zn3 : (3 : Int32) = zI 3 := rfl
theorem zn4 : (4 : Int32) = zI 4 := rfl
theorem zn6 : (6 : Int32) = zI 6 := rfl
theorem zn9 : (9 : Int32) = zI 9 := rfl
theorem zn12 : (12 : Int32) = zI 12 := rfl
theorem zn15 : (15 : Int32) = zI 15 := rfl
theorem zn18 : (18 : Int32) = zI 18 := rfl
theorem zn30 : (30 : Int32) = zI 30 := rfl
theorem zn36 : (36 : Int32) = zI 36 := rfl
theorem zn54 : (54 : Int32) = zI 54 := rfl
theorem zn84 : (84 : Int32) = zI 84 := rfl
theorem zn100 : (100 : Int32) = zI 100 := rfl
theorem zn100000 : (100000 : Int32) = zI 100000 := rfl
theorem zbs {α β : Type} (a : α) (k : α → Option β) : (some a).bind k = k a := rfl
-- states
theorem gi_si {σ : zSt} {k : Nat} {v : Int32} : zgi (zsi σ k v) k = v := by simp [zgi, zsi, zup]
theorem gl_sl {σ : zSt} {k : Nat} {v : Int64} : zgl (zsl σ k v) k = v := by simp [zgl, zsl, zup]
theorem ga_sa {σ : zSt} {k : Nat} {v : Nat → Int32} : zga (zsa σ k v) k = v := by simp [zga, zsa, zup]
theorem gb_sb {σ : zSt} {k : Nat} {v : Nat → Int64} : zgb (zsb σ k v) k = v := by simp [zgb, zsb, zup]
theorem zupne {α : Type} {f : Nat → α} {k j : Nat} {v : α} (h : j ≠ k) : zup f k v j = f j := by
  have : Nat.beq j k = false := by
    cases h2 : Nat.beq j k with
    | false => rfl
    | true => exact absurd (Nat.eq_of_beq_eq_true h2) h
  unfold zup
  rw [this]
  rfl
theorem gi_sin {σ : zSt} {k j : Nat} {v : Int32} (h : j ≠ k) : zgi (zsi σ k v) j = zgi σ j := zupne h
theorem gl_sln {σ : zSt} {k j : Nat} {v : Int64} (h : j ≠ k) : zgl (zsl σ k v) j = zgl σ j := zupne h
theorem ga_san {σ : zSt} {k j : Nat} {v : Nat → Int32} (h : j ≠ k) : zga (zsa σ k v) j = zga σ j := zupne h
theorem gb_sbn {σ : zSt} {k j : Nat} {v : Nat → Int64} (h : j ≠ k) : zgb (zsb σ k v) j = zgb σ j := zupne h
theorem gi_sl {σ : zSt} {k j : Nat} {v : Int64} : zgi (zsl σ k v) j = zgi σ j := rfl
theorem gi_sa {σ : zSt} {k j : Nat} {v : Nat → Int32} : zgi (zsa σ k v) j = zgi σ j := rfl
theorem gi_sb {σ : zSt} {k j : Nat} {v : Nat → Int64} : zgi (zsb σ k v) j = zgi σ j := rfl
theorem gl_si {σ : zSt} {k j : Nat} {v : Int32} : zgl (zsi σ k v) j = zgl σ j := rfl
theorem gl_sa {σ : zSt} {k j : Nat} {v : Nat → Int32} : zgl (zsa σ k v) j = zgl σ j := rfl
theorem gl_sb {σ : zSt} {k j : Nat} {v : Nat → Int64} : zgl (zsb σ k v) j = zgl σ j := rfl
theorem ga_si {σ : zSt} {k j : Nat} {v : Int32} : zga (zsi σ k v) j = zga σ j := rfl
theorem ga_sl {σ : zSt} {k j : Nat} {v : Int64} : zga (zsl σ k v) j = zga σ j := rfl
theorem ga_sb {σ : zSt} {k j : Nat} {v : Nat → Int64} : zga (zsb σ k v) j = zga σ j := rfl
theorem gb_si {σ : zSt} {k j : Nat} {v : Int32} : zgb (zsi σ k v) j = zgb σ j := rfl
theorem gb_sl {σ : zSt} {k j : Nat} {v : Int64} : zgb (zsl σ k v) j = zgb σ j := rfl
theorem gb_sa {σ : zSt} {k j : Nat} {v : Nat → Int32} : zgb (zsa σ k v) j = zgb σ j := rfl
theorem upd_s {f : Nat → Int32} {k j : Nat} {x : Int32} (h : j = k) : upd f k x j = x := by simp [upd, h]
theorem upd_n {f : Nat → Int32} {k j : Nat} {x : Int32} (h : j ≠ k) : upd f k x j = f j := by simp [upd, h]
theorem updL_s {f : Nat → Int64} {k j : Nat} {x : Int64} (h : j = k) : vp_updL f k x j = x := by simp [vp_updL, h]
theorem updL_n {f : Nat → Int64} {k j : Nat} {x : Int64} (h : j ≠ k) : vp_updL f k x j = f j := by simp [vp_updL, h]
-- Int64 and Int32 in bounds
def zab (a : Int) (A : Nat) : Prop := a.natAbs ≤ A
theorem zab_le {a : Int} {A B : Nat} (h : zab a A) (hB : A ≤ B) : zab a B := Nat.le_trans h hB
theorem zab_mul {a b : Int} {A B : Nat} (ha : zab a A) (hb : zab b B) : zab (a * b) (A * B) := by
  unfold zab at *
  rw [Int.natAbs_mul]
  exact Nat.mul_le_mul ha hb
theorem zab_add {a b : Int} {A B : Nat} (ha : zab a A) (hb : zab b B) : zab (a + b) (A + B) := by
  unfold zab at *
  omega
theorem zab_sub {a b : Int} {A B : Nat} (ha : zab a A) (hb : zab b B) : zab (a - b) (A + B) := by
  unfold zab at *
  omega
theorem zab_neg {a : Int} {A : Nat} (ha : zab a A) : zab (-a) A := by
  unfold zab at *
  omega
theorem zab_of {a : Int} {A : Nat} (h1 : -(A : Int) ≤ a) (h2 : a ≤ A) : zab a A := by
  unfold zab
  omega
theorem zab_lo {a : Int} {A : Nat} (h : zab a A) : -(A : Int) ≤ a := by
  unfold zab at h
  omega
theorem zab_hi {a : Int} {A : Nat} (h : zab a A) : a ≤ (A : Int) := by
  unfold zab at h
  omega
theorem z64add {a b : Int64} {A B : Nat} (ha : zab a.toInt A) (hb : zab b.toInt B) (h : A + B < 9223372036854775808) : (a + b).toInt = a.toInt + b.toInt := by
  have h1 := zab_add ha hb
  unfold zab at h1
  rw [Int64.toInt_add]
  exact Int.bmod_eq_of_le (by omega) (by omega)
theorem z64sub {a b : Int64} {A B : Nat} (ha : zab a.toInt A) (hb : zab b.toInt B) (h : A + B < 9223372036854775808) : (a - b).toInt = a.toInt - b.toInt := by
  have h1 := zab_sub ha hb
  unfold zab at h1
  rw [Int64.toInt_sub]
  exact Int.bmod_eq_of_le (by omega) (by omega)
theorem z64mul {a b : Int64} {A B : Nat} (ha : zab a.toInt A) (hb : zab b.toInt B) (h : A * B < 9223372036854775808) : (a * b).toInt = a.toInt * b.toInt := by
  have h1 := zab_mul ha hb
  unfold zab at h1
  rw [Int64.toInt_mul]
  exact Int.bmod_eq_of_le (by omega) (by omega)
theorem z64neg {a : Int64} {A : Nat} (ha : zab a.toInt A) (h : A < 9223372036854775808) : (-a).toInt = -a.toInt := by
  have h1 := zab_neg ha
  unfold zab at h1
  rw [Int64.toInt_neg]
  exact Int.bmod_eq_of_le (by omega) (by omega)
theorem z64div {a b : Int64} {A : Nat} (ha : zab a.toInt A) (h : A < 9223372036854775808) : (a / b).toInt = a.toInt.tdiv b.toInt := by
  apply Int64.toInt_div_of_ne_left
  intro e
  rw [e] at ha
  unfold zab at ha
  have h3 : Int64.minValue.toInt.natAbs = 9223372036854775808 := by decide
  omega
theorem z32add {a b : Int32} {A B : Nat} (ha : zab a.toInt A) (hb : zab b.toInt B) (h : A + B < 2147483648) : (a + b).toInt = a.toInt + b.toInt := by
  have h1 := zab_add ha hb
  unfold zab at h1
  rw [Int32.toInt_add]
  exact Int.bmod_eq_of_le (by omega) (by omega)
theorem z32sub {a b : Int32} {A B : Nat} (ha : zab a.toInt A) (hb : zab b.toInt B) (h : A + B < 2147483648) : (a - b).toInt = a.toInt - b.toInt := by
  have h1 := zab_sub ha hb
  unfold zab at h1
  rw [Int32.toInt_sub]
  exact Int.bmod_eq_of_le (by omega) (by omega)
theorem z32mul {a b : Int32} {A B : Nat} (ha : zab a.toInt A) (hb : zab b.toInt B) (h : A * B < 2147483648) : (a * b).toInt = a.toInt * b.toInt := by
  have h1 := zab_mul ha hb
  unfold zab at h1
  rw [Int32.toInt_mul]
  exact Int.bmod_eq_of_le (by omega) (by omega)
theorem z32neg {a : Int32} {A : Nat} (ha : zab a.toInt A) (h : A < 2147483648) : (-a).toInt = -a.toInt := by
  have h1 := zab_neg ha
  unfold zab at h1
  rw [Int32.toInt_neg]
  exact Int.bmod_eq_of_le (by omega) (by omega)
theorem z64le (a b : Int64) : (a ≤ b) = (a.toInt ≤ b.toInt) := propext Int64.le_iff_toInt_le
theorem z64lt (a b : Int64) : (a < b) = (a.toInt < b.toInt) := propext Int64.lt_iff_toInt_lt
theorem z64eq (a b : Int64) : (a = b) = (a.toInt = b.toInt) := propext Int64.toInt_inj.symm
theorem z32le (a b : Int32) : (a ≤ b) = (a.toInt ≤ b.toInt) := propext Int32.le_iff_toInt_le
theorem z32lt (a b : Int32) : (a < b) = (a.toInt < b.toInt) := propext Int32.lt_iff_toInt_lt
theorem z32eq (a b : Int32) : (a = b) = (a.toInt = b.toInt) := propext Int32.toInt_inj.symm
theorem z64_0 : (0 : Int64).toInt = 0 := by decide
theorem z64_1 : (1 : Int64).toInt = 1 := by decide
theorem z64_m1 : (-1 : Int64).toInt = -1 := by decide
theorem z32_64 (a : Int32) : a.toInt64.toInt = a.toInt := Int32.toInt_toInt64 a

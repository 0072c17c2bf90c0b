/-! 78: rows as bits. -/
def zbits (f : Nat → Bool) : Nat → Nat
  | 0 => 0
  | m + 1 => zbits f m + if f m then 2 ^ m else 0
theorem zbits_lt (f : Nat → Bool) (m : Nat) : zbits f m < 2 ^ m := by
  induction m with
  | zero => exact Nat.one_pos
  | succ m ih =>
    have h : (2 : Nat) ^ (m + 1) = 2 ^ m + 2 ^ m := by rw [Nat.pow_succ]; omega
    unfold zbits
    split <;> omega
theorem zbits_div (f : Nat → Bool) {r : Nat} : ∀ {m : Nat}, r < m → zbits f m / 2 ^ r % 2 = if f r then 1 else 0
  | 0, h => by omega
  | m + 1, h => by
    have hp : 0 < 2 ^ r := Nat.two_pow_pos r
    unfold zbits
    by_cases c : r = m
    · subst c
      have hl := zbits_lt f r
      by_cases cf : f r = true
      · rw [if_pos cf, if_pos cf]
        have e : zbits f r + 2 ^ r = zbits f r + 2 ^ r * 1 := by omega
        rw [e, Nat.add_mul_div_left _ _ hp, Nat.div_eq_of_lt hl]
      · rw [if_neg cf, if_neg cf, Nat.add_zero, Nat.div_eq_of_lt hl]
    · have ih := zbits_div f (show r < m by omega)
      by_cases cf : f m = true
      · rw [if_pos cf]
        have e : (2 : Nat) ^ m = 2 ^ r * (2 * 2 ^ (m - r - 1)) := by
          rw [← Nat.mul_assoc, ← Nat.pow_succ, ← Nat.pow_add]
          congr 1
          omega
        rw [e, Nat.add_mul_div_left _ _ hp, ← ih]
        omega
      · rw [if_neg cf, Nat.add_zero]
        exact ih
theorem zbits_congr {f g : Nat → Bool} {m : Nat} (h : ∀ r, r < m → f r = g r) : zbits f m = zbits g m := by
  induction m with
  | zero => rfl
  | succ m ih =>
    unfold zbits
    rw [ih (fun r hr => h r (by omega)), h m (by omega)]
theorem zbits_ge {f : Nat → Bool} {k : Nat} : ∀ {m : Nat}, k ≤ m → (∀ r, k ≤ r → r < m → f r = false) → zbits f m = zbits f k
  | 0, h, _ => by rw [show k = 0 by omega]
  | m + 1, h, hf => by
    by_cases c : k = m + 1
    · rw [c]
    · have ih := zbits_ge (f := f) (show k ≤ m by omega) (fun r h1 h2 => hf r h1 (by omega))
      have e : zbits f (m + 1) = zbits f m + if f m then 2 ^ m else 0 := rfl
      rw [e, hf m (by omega) (by omega), ih]
      simp
theorem zmask : ∀ r, r < 12 → ((zI r &&& (31 : Int32)).toBitVec.smod 32).toNat = r := by decide
theorem zshl1 : ∀ r, r < 12 → (1 : Int32) <<< (zI r &&& (31 : Int32)) = zI (2 ^ r) := by decide
theorem zI_shr {N r : Nat} (hN : N < 2147483648) (hr : r < 12) : zI N >>> (zI r &&& (31 : Int32)) = zI (N / 2 ^ r) := by
  have hle : N / 2 ^ r ≤ N := Nat.div_le_self _ _
  apply Int32.toInt_inj.mp
  rw [zI_toInt (by omega)]
  show ((zI N).toBitVec.sshiftRight' ((zI r &&& (31 : Int32)).toBitVec.smod 32)).toInt = _
  rw [BitVec.sshiftRight_eq', zmask r hr, BitVec.toInt_sshiftRight]
  have e : (zI N).toBitVec.toInt = (N : Int) := zI_toInt hN
  rw [e, Int.shiftRight_eq_div_pow]
  exact (Int.natCast_ediv _ _).symm
theorem zI_half {k : Nat} (hk : k < 2147483648) : zI k - zI k / (2 : Int32) * (2 : Int32) = zI (k % 2) := by
  have d : (zI k / (2 : Int32)).toInt = ((k / 2 : Nat) : Int) := by
    rw [Int32.toInt_div_of_ne_right _ _ (by decide), zI_toInt hk, show (2 : Int32).toInt = ((2 : Nat) : Int) by decide, Int.ofNat_tdiv]
  apply Int32.toInt_inj.mp
  have m : (zI k / (2 : Int32) * (2 : Int32)).toInt = ((k / 2 * 2 : Nat) : Int) := by
    rw [Int32.toInt_mul, d, show (2 : Int32).toInt = 2 by decide]
    rw [Int.bmod_eq_of_le (by omega) (by omega)]
    omega
  rw [Int32.toInt_sub, m, zI_toInt hk, zI_toInt (by omega)]
  rw [Int.bmod_eq_of_le (by omega) (by omega)]
  omega
theorem zI_and1 (k : Nat) : zI k &&& (1 : Int32) = zI (k % 2) := by
  apply Int32.toBitVec.inj
  show BitVec.ofNat 32 k &&& BitVec.ofNat 32 1 = BitVec.ofNat 32 (k % 2)
  rw [← BitVec.ofNat_and, Nat.and_one_is_mod]
theorem zI_or (a b : Nat) : zI a ||| zI b = zI (a ||| b) := by
  apply Int32.toBitVec.inj
  show BitVec.ofNat 32 a ||| BitVec.ofNat 32 b = BitVec.ofNat 32 (a ||| b)
  rw [← BitVec.ofNat_or]
theorem zbt_bits {f : Nat → Bool} {m r : Nat} (hm : m ≤ 12) (hr : r < m) : zbt (zI (zbits f m)) r ↔ f r = true := by
  have hl := zbits_lt f m
  have h12 : (2 : Nat) ^ m ≤ 2 ^ 12 := Nat.pow_le_pow_right (by omega) hm
  have e12 : (2 : Nat) ^ 12 = 4096 := rfl
  have hle : zbits f m / 2 ^ r ≤ zbits f m := Nat.div_le_self _ _
  unfold zbt
  rw [zI_shr (by omega) (by omega), zI_half (by omega), zbits_div f hr]
  by_cases c : f r = true
  · rw [if_pos c]
    exact ⟨fun _ => c, fun _ => rfl⟩
  · rw [if_neg c]
    constructor
    · intro h; exact absurd h (by decide)
    · intro h; exact absurd h c
theorem zgat_bits {P : zSt} {g : Nat → Bool} {m r : Nat} (hm : m ≤ 12) (hr : r < m) : zgat P (zI (zbits g m)) r ↔ zga P 5 r ≠ 0 ∧ g r = false := by
  have hl := zbits_lt g m
  have h12 : (2 : Nat) ^ m ≤ 2 ^ 12 := Nat.pow_le_pow_right (by omega) hm
  have e12 : (2 : Nat) ^ 12 = 4096 := rfl
  have hle : zbits g m / 2 ^ r ≤ zbits g m := Nat.div_le_self _ _
  unfold zgat
  rw [zI_shr (by omega) (by omega), zI_and1, zbits_div g hr]
  by_cases c : g r = true
  · rw [if_pos c]
    constructor
    · rintro ⟨-, h⟩; exact absurd h (by decide)
    · rintro ⟨-, h⟩; rw [c] at h; cases h
  · rw [if_neg c]
    constructor
    · rintro ⟨h, -⟩; exact ⟨h, by cases hg : g r <;> simp_all⟩
    · rintro ⟨h, -⟩; exact ⟨h, rfl⟩
/-- rows that are left, by bits, on both sides -/
theorem zSm_bits {n m q : Nat} {P O : zSt} (hP : zPw n m q P) (h : zRl n m q P O) {f g : Nat → Bool} (hfg : ∀ r, r < m → (f r = true ↔ (zga P 5 r ≠ 0 ∧ g r = false))) (x : Int32) : zSm m P O (zI (zbits g m)) x (zI (zbits f m)) x ∧ znb (zI (zbits f m)) m ≤ 6 := by
  have hm := hP.2.1
  refine ⟨fun r hr => ⟨?_, fun _ => ?_⟩, ?_⟩
  · rw [zgat_bits hm hr, zbt_bits hm hr, hfg r hr]
  · rw [(zrnum_b hP x hr).2]
    unfold zRn
    rw [(h.2.2.2.2.1 r hr).2.2.1]
  · have key : ∀ k, k ≤ m → znb (zI (zbits f m)) k ≤ zlv P k := by
      intro k
      induction k with
      | zero => intro _; exact Nat.le_refl 0
      | succ k ih =>
        intro hk
        have h1 := ih (by omega)
        have h2 := zbt_bits (f := f) hm (show k < m by omega)
        unfold zbt at h2
        have e : zlv P (k + 1) = zlv P k + if zga P 5 k = 0 then 0 else 1 := rfl
        unfold znb
        split
        · rename_i c
          have h3 := (hfg k (by omega)).mp (h2.mp c)
          rw [if_neg h3.1] at e
          omega
        · omega
    have := key m (Nat.le_refl m)
    have := hP.2.2.2.2.2.2.1.2
    omega
theorem zall_4 {m : Nat} {O : zSt} (hm : m ≤ 12) (h11 : zgi O 11 = zI m) : ∀ (d k fu : Nat), k + d = m → d < fu → fX12_allLeft_4 O fu (zI (zbits (fun r => decide (zga O 6 r = 0)) k)) (zI k) = some (zI (zbits (fun r => decide (zga O 6 r = 0)) m))
  | 0, k, fu + 1, hk, hf => by
    have e : k = m := by omega
    subst e
    rw [fX12_allLeft_4, h11, if_pos (Int32.le_refl _)]
  | d + 1, k, fu + 1, hk, hf => by
    have e : zbits (fun r => decide (zga O 6 r = 0)) (k + 1) = zbits (fun r => decide (zga O 6 r = 0)) k + if decide (zga O 6 k = 0) = true then 2 ^ k else 0 := rfl
    rw [fX12_allLeft_4, h11, if_neg (by rw [zI_le (by omega) (by omega)]; omega), if_pos (zin_zI (by omega) (by omega)), zI_nat (by omega)]
    unfold fX12_allLeft_29
    by_cases c : zga O 6 k = 0
    · rw [if_pos c, zlq, zlq, zshl1 k (by omega), zI_add, zn1, zI_add]
      rw [if_pos (decide_eq_true c)] at e
      rw [← e]
      exact zall_4 hm h11 d (k + 1) fu (by omega) (by omega)
    · have e0 : ∀ a : Nat, zI a + (0 : Int32) = zI a := fun a => by show zI a + zI 0 = _; rw [zI_add]; rfl
      rw [if_neg c, zlq, zlq, e0, zn1, zI_add]
      rw [if_neg (by simp [c]), Nat.add_zero] at e
      rw [show zbits (fun r => decide (zga O 6 r = 0)) k = zbits (fun r => decide (zga O 6 r = 0)) (k + 1) from e.symm]
      exact zall_4 hm h11 d (k + 1) fu (by omega) (by omega)
theorem eX12_allLeft {m : Nat} {O : zSt} (hm : m ≤ 12) (h11 : zgi O 11 = zI m) : fX12_allLeft O = some (zI (zbits (fun r => decide (zga O 6 r = 0)) m)) := by
  unfold fX12_allLeft
  rw [zn0]
  exact zall_4 hm h11 m 0 6000 (by omega) (by omega)
theorem zbits_none (m : Nat) : zbits (fun _ => false) m = 0 := by
  induction m with
  | zero => rfl
  | succ m ih => unfold zbits; rw [ih]; rfl
theorem zSm_all {n m q : Nat} {P O : zSt} (hP : zPw n m q P) (h : zRl n m q P O) (x : Int32) : zSm m P O 0 x (zI (zbits (fun r => decide (zga O 6 r = 0)) m)) x ∧ znb (zI (zbits (fun r => decide (zga O 6 r = 0)) m)) m ≤ 6 := by
  have e := zSm_bits hP h (f := fun r => decide (zga O 6 r = 0)) (g := fun _ => false) (fun r hr => by
    rw [decide_eq_true_iff, (h.2.2.2.2.1 r hr).2.2.2]
    exact ⟨fun h => ⟨h, rfl⟩, fun h => h.1⟩) x
  rw [zbits_none] at e
  exact e

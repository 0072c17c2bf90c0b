/-! 69: what the reference reads of a point and of a ray. -/
def zVp (O : zSt) (p : Nat) : zV := ((zgb O 21 (3 * p)).toInt, (zgb O 21 (3 * p + 1)).toInt, (zgb O 21 (3 * p + 2)).toInt, (zgb O 22 p).toInt)
def zVr (O : zSt) (p : Nat) : zV := ((zgb O 23 (3 * p)).toInt, (zgb O 23 (3 * p + 1)).toInt, (zgb O 23 (3 * p + 2)).toInt, 0)
/-- an aim's sum -/
def zA0 (O : zSt) (a : Nat) : zV := ((zga O 5 (3 * a)).toInt, (zga O 5 (3 * a + 1)).toInt, (zga O 5 (3 * a + 2)).toInt, 0)
def zsm (O : zSt) (a : Nat) : Int := if zga O 7 a = 0 then -1 else 1
theorem zsm_or (O : zSt) (a : Nat) : (zga O 7 a = 0 ∧ zsm O a = -1) ∨ (zga O 7 a ≠ 0 ∧ zsm O a = 1) := by
  unfold zsm
  by_cases c : zga O 7 a = 0
  · exact Or.inl ⟨c, by rw [if_pos c]⟩
  · exact Or.inr ⟨c, by rw [if_neg c]⟩
def zbA (O : zSt) (a : Nat) : Prop := ∀ i, i < 3 → zab (zga O 5 (3 * a + i)).toInt 9
/-- the stored points and rays are small -/
def zbP (O : zSt) (np : Nat) : Prop := ∀ p, p < np → (∀ n, n < 3 → zab (zgb O 21 (3 * p + n)).toInt 23619600) ∧ 0 < (zgb O 22 p).toInt ∧ zab (zgb O 22 p).toInt 4374
def zbR (O : zSt) (nr : Nat) : Prop := ∀ p, p < nr → ∀ n, n < 3 → zab (zgb O 23 (3 * p + n)).toInt 23619600
theorem zsum64 {x : Int64} {c : Int32} {y : Int64} {X : Int} {B : Nat} (hx : x.toInt = X) (hX : zab X B) (hB : B ≤ 1000000000000) (hc : zab c.toInt 9) (hy : zab y.toInt 23619600) : (x + c.toInt64 * y).toInt = X + c.toInt * y.toInt ∧ zab (X + c.toInt * y.toInt) (B + 212576400) := by
  have p := z64mul (a := c.toInt64) (b := y) (A := 9) (B := 23619600) (by rw [z32_64]; exact hc) hy (by omega)
  rw [z32_64] at p
  have b : zab (c.toInt64 * y).toInt 212576400 := by rw [p]; exact zab_mul hc hy
  have q := z64add (a := x) (b := c.toInt64 * y) (A := B) (B := 212576400) (by rw [hx]; exact hX) b (by omega)
  rw [hx, p] at q
  refine ⟨q, ?_⟩
  have := zab_add hX (zab_mul hc hy)
  exact this
theorem eX12_top {O : zSt} {a p np : Nat} (ha : a < 3) (hbA : zbA O a) (hbP : zbP O np) (hp : p < np) (hnp : np ≤ 600) : ∃ d, fX12_top O (zI a) (zI p) = some d ∧ d.toInt = zev (zA0 O a) (zVp O p) ∧ zab d.toInt 637729200 := by
  have h : ∀ f, ∃ d, fX12_top_5 O (f + 4) (zI a) (zI p) 0 (zI 0) = some d ∧ d.toInt = zev (zA0 O a) (zVp O p) ∧ zab d.toInt 637729200 := by
    intro f
    have z : (0 : Int64).toInt = 0 := by decide
    have s0 := zsum64 (x := 0) (X := 0) (B := 0) z (zab0 _) (by omega) (hbA 0 (by omega)) ((hbP p hp).1 0 (by omega))
    have s1 := zsum64 s0.1 s0.2 (by omega) (hbA 1 (by omega)) ((hbP p hp).1 1 (by omega))
    have s2 := zsum64 s1.1 s1.2 (by omega) (hbA 2 (by omega)) ((hbP p hp).1 2 (by omega))
    rw [fX12_top_5, if_neg (by rw [zn3, zI_le (by omega) (by omega)]; omega), zn3, zI_mul, zI_add, zI_mul, zI_add, if_pos (zin_zI (by omega) (by omega)), if_pos (zin_zI (by omega) (by omega)), zlq, zlq, zs01, zI_nat (by omega), zI_nat (by omega)]
    rw [fX12_top_5, if_neg (by rw [zn3, zI_le (by omega) (by omega)]; omega), zn3, zI_mul, zI_add, zI_mul, zI_add, if_pos (zin_zI (by omega) (by omega)), if_pos (zin_zI (by omega) (by omega)), zlq, zlq, zs12, zI_nat (by omega), zI_nat (by omega)]
    rw [fX12_top_5, if_neg (by rw [zn3, zI_le (by omega) (by omega)]; omega), zn3, zI_mul, zI_add, zI_mul, zI_add, if_pos (zin_zI (by omega) (by omega)), if_pos (zin_zI (by omega) (by omega)), zlq, zlq, zs23, zI_nat (by omega), zI_nat (by omega)]
    rw [fX12_top_5, if_pos (by rw [zn3, zI_le (by omega) (by omega)]; omega)]
    refine ⟨_, rfl, ?_, by rw [s2.1]; exact zab_le s2.2 (by omega)⟩
    rw [s2.1]
    unfold zev zA0 zVp
    simp
  unfold fX12_top
  rw [zn0]
  exact h 5996
theorem eX12_gain {O : zSt} {a p nr : Nat} (ha : a < 3) (hbA : zbA O a) (hbR : zbR O nr) (hp : p < nr) (hnr : nr ≤ 130) : ∃ d, fX12_gain O (zI a) (zI p) = some d ∧ d.toInt = zsm O a * zev (zA0 O a) (zVr O p) := by
  have h : ∀ f, ∃ d, fX12_gain_5 O (f + 4) (zI a) (zI p) 0 (zI 0) = some d ∧ d.toInt = zsm O a * zev (zA0 O a) (zVr O p) := by
    intro f
    have z : (0 : Int64).toInt = 0 := by decide
    have s0 := zsum64 (x := 0) (X := 0) (B := 0) z (zab0 _) (by omega) (hbA 0 (by omega)) (hbR p hp 0 (by omega))
    have s1 := zsum64 s0.1 s0.2 (by omega) (hbA 1 (by omega)) (hbR p hp 1 (by omega))
    have s2 := zsum64 s1.1 s1.2 (by omega) (hbA 2 (by omega)) (hbR p hp 2 (by omega))
    rw [fX12_gain_5, if_neg (by rw [zn3, zI_le (by omega) (by omega)]; omega), zn3, zI_mul, zI_add, zI_mul, zI_add, if_pos (zin_zI (by omega) (by omega)), if_pos (zin_zI (by omega) (by omega)), zlq, zlq, zs01, zI_nat (by omega), zI_nat (by omega)]
    rw [fX12_gain_5, if_neg (by rw [zn3, zI_le (by omega) (by omega)]; omega), zn3, zI_mul, zI_add, zI_mul, zI_add, if_pos (zin_zI (by omega) (by omega)), if_pos (zin_zI (by omega) (by omega)), zlq, zlq, zs12, zI_nat (by omega), zI_nat (by omega)]
    rw [fX12_gain_5, if_neg (by rw [zn3, zI_le (by omega) (by omega)]; omega), zn3, zI_mul, zI_add, zI_mul, zI_add, if_pos (zin_zI (by omega) (by omega)), if_pos (zin_zI (by omega) (by omega)), zlq, zlq, zs23, zI_nat (by omega), zI_nat (by omega)]
    rw [fX12_gain_5, if_pos (by rw [zn3, zI_le (by omega) (by omega)]; omega), if_pos (zin_zI ha (by omega)), zI_nat (by omega)]
    have e : zev (zA0 O a) (zVr O p) = 0 + (zga O 5 (3 * a + 0)).toInt * (zgb O 23 (3 * p + 0)).toInt + (zga O 5 (3 * a + 1)).toInt * (zgb O 23 (3 * p + 1)).toInt + (zga O 5 (3 * a + 2)).toInt * (zgb O 23 (3 * p + 2)).toInt := by
      unfold zev zA0 zVr
      simp
    rcases zsm_or O a with ⟨h1, h2⟩ | ⟨h1, h2⟩
    · rw [if_pos h1]
      refine ⟨_, rfl, ?_⟩
      rw [z64neg (by rw [s2.1]; exact s2.2) (by omega), s2.1, h2, e]
      omega
    · rw [if_neg h1]
      refine ⟨_, rfl, ?_⟩
      rw [s2.1, h2, e]
      omega
  unfold fX12_gain
  rw [zn0]
  exact h 5996
theorem eX12_better {O : zSt} {a p t np : Nat} (ha : a < 3) (hbA : zbA O a) (hbP : zbP O np) (hp : p < np) (ht : t < np) (hnp : np ≤ 600) : ∃ d, fX12_better O (zI a) (zI p) (zI t) = some d ∧ d.toInt = zsm O a * (zev (zA0 O a) (zVp O p) * (zVp O t).2.2.2 - zev (zA0 O a) (zVp O t) * (zVp O p).2.2.2) := by
  obtain ⟨d1, f1, f2, f3⟩ := eX12_top ha hbA hbP hp hnp
  obtain ⟨d2, g1, g2, g3⟩ := eX12_top ha hbA hbP ht hnp
  have bp := (hbP p hp).2.2
  have bt := (hbP t ht).2.2
  have m1 := z64mul f3 bt (by omega)
  have m2 := z64mul g3 bp (by omega)
  have c1 : zab (d1 * zgb O 22 t).toInt 2789427520800 := by rw [m1]; exact zab_mul f3 bt
  have c2 : zab (d2 * zgb O 22 p).toInt 2789427520800 := by rw [m2]; exact zab_mul g3 bp
  have s := z64sub c1 c2 (by omega)
  have cb : zab (d1 * zgb O 22 t - d2 * zgb O 22 p).toInt 5578855041600 := by rw [s]; exact zab_sub c1 c2
  rw [m1, m2, f2, g2] at s
  have wp : ∀ q, (zVp O q).2.2.2 = (zgb O 22 q).toInt := fun _ => rfl
  unfold fX12_better
  rw [f1, zbq, if_pos (zin_zI (by omega) (by omega)), g1, zbq, if_pos (zin_zI (by omega) (by omega)), zlq, if_pos (zin_zI ha (by omega)), zI_nat (by omega), zI_nat (by omega), zI_nat (by omega)]
  unfold fX12_better_46
  rcases zsm_or O a with ⟨h1, h2⟩ | ⟨h1, h2⟩
  · rw [if_pos h1]
    refine ⟨_, rfl, ?_⟩
    rw [z64neg cb (by omega), s, h2, wp, wp]
    omega
  · rw [if_neg h1]
    refine ⟨_, rfl, ?_⟩
    rw [s, h2, wp, wp]
    omega
/-- the points and rays that are left -/
def zLf (O : zSt) (np nr : Nat) (A R : Nat → Prop) : Prop := (∀ p, p < np → (zga O 25 p ≠ 0 ↔ A p)) ∧ ∀ p, p < nr → (zga O 26 p ≠ 0 ↔ R p)
theorem zopen_2 {O : zSt} {a nr : Nat} (ha : a < 3) (hbA : zbA O a) (hbR : zbR O nr) (hnr : nr ≤ 130) (h33 : zgi O 33 = zI nr) : ∀ (d k f : Nat), k + d = nr → d < f → (∀ r, r < k → zga O 26 r ≠ 0 → zsm O a * zev (zA0 O a) (zVr O r) ≤ 0) → ∃ y, fX12_isOpenFor_2 O f (zI a) (zI k) = some y ∧ ((y = 0 ∧ ∀ r, r < nr → zga O 26 r ≠ 0 → zsm O a * zev (zA0 O a) (zVr O r) ≤ 0) ∨ (y = 1 ∧ ∃ r, r < nr ∧ zga O 26 r ≠ 0 ∧ 0 < zsm O a * zev (zA0 O a) (zVr O r)))
  | 0, k, f + 1, hk, hf, hp => by
    rw [fX12_isOpenFor_2, h33, if_pos (by rw [zI_le (by omega) (by omega)]; omega)]
    exact ⟨0, rfl, Or.inl ⟨rfl, fun r hr => hp r (by omega)⟩⟩
  | d + 1, k, f + 1, hk, hf, hp => by
    rw [fX12_isOpenFor_2, h33, if_neg (by rw [zI_le (by omega) (by omega)]; omega), if_pos (zin_zI (by omega) (by omega)), zI_nat (by omega)]
    have next : (zga O 26 k ≠ 0 → zsm O a * zev (zA0 O a) (zVr O k) ≤ 0) → ∃ y, fX12_isOpenFor_32 O (fX12_isOpenFor_2 O f) (zI a) (zI k) = some y ∧ ((y = 0 ∧ ∀ r, r < nr → zga O 26 r ≠ 0 → zsm O a * zev (zA0 O a) (zVr O r) ≤ 0) ∨ (y = 1 ∧ ∃ r, r < nr ∧ zga O 26 r ≠ 0 ∧ 0 < zsm O a * zev (zA0 O a) (zVr O r))) := by
      intro h
      unfold fX12_isOpenFor_32
      rw [zlq, zn1, zI_add]
      refine zopen_2 ha hbA hbR hnr h33 d (k + 1) f (by omega) (by omega) (fun r hr hne => ?_)
      by_cases c : r = k
      · subst c; exact h hne
      · exact hp r (by omega) hne
    by_cases c : zga O 26 k = 0
    · rw [if_pos c]
      exact next (fun h => absurd c h)
    · rw [if_neg c]
      obtain ⟨g, g1, g2⟩ := eX12_gain ha hbA hbR (show k < nr by omega) hnr
      rw [g1, zbq]
      by_cases c2 : g ≤ (0 : Int64)
      · rw [if_pos c2]
        rw [z64le, g2, z64_0] at c2
        exact next (fun _ => c2)
      · rw [if_neg c2]
        rw [z64le, g2, z64_0] at c2
        exact ⟨1, rfl, Or.inr ⟨rfl, k, by omega, c, by omega⟩⟩
theorem eX12_isOpenFor {O : zSt} {a nr : Nat} (ha : a < 3) (hbA : zbA O a) (hbR : zbR O nr) (hnr : nr ≤ 130) (h33 : zgi O 33 = zI nr) : ∃ y, fX12_isOpenFor O (zI a) = some y ∧ ((y = 0 ∧ ∀ r, r < nr → zga O 26 r ≠ 0 → zsm O a * zev (zA0 O a) (zVr O r) ≤ 0) ∨ (y = 1 ∧ ∃ r, r < nr ∧ zga O 26 r ≠ 0 ∧ 0 < zsm O a * zev (zA0 O a) (zVr O r))) := by
  unfold fX12_isOpenFor
  rw [zn0]
  exact zopen_2 ha hbA hbR hnr h33 nr 0 6000 (by omega) (by omega) (fun r hr => by omega)

/-! 84: points compared by the aims; the walk's point is the best. -/
def zcmpb (P : zSt) (q : Nat) (Z Y : zV) : Prop := ∃ a, a < q ∧ (∀ b, b < a → zev (zac P b) Z * Y.2.2.2 = zev (zac P b) Y * Z.2.2.2) ∧ 0 < (zga P 7 a).toInt * (zev (zac P a) Z * Y.2.2.2 - zev (zac P a) Y * Z.2.2.2)
/-- both points have the same values of all aims -/
def zeqa (P : zSt) (q : Nat) (Z Y : zV) : Prop := ∀ b, b < q → zev (zac P b) Z * Y.2.2.2 = zev (zac P b) Y * Z.2.2.2
theorem zeqa_sym {P : zSt} {q : Nat} {Z Y : zV} (h : zeqa P q Z Y) : zeqa P q Y Z := fun b hb => (h b hb).symm
theorem zcmp_2 {n m q : Nat} {P A Q : zSt} {Z Y : zV} (hP : zPw n m q P) (hA : zQp A Z) (hQ : zQp Q Y) (hZ : zBd Z) (hY : zBd Y) : ∀ (d a f : Nat), a + d = q → d < f → (∀ b, b < a → zev (zac P b) Z * Y.2.2.2 = zev (zac P b) Y * Z.2.2.2) → ∃ c, fX5_compareByAims_2 P A Q f (zI a) = some c ∧ (¬ c ≤ 0 ↔ zcmpb P q Z Y)
  | 0, a, f + 1, ha, hf, he => by
    have e : a = q := by omega
    subst e
    rw [fX5_compareByAims_2, hP.2.2.2.2.2.1, if_pos (Int32.le_refl _)]
    refine ⟨0, rfl, fun h => absurd (Int32.le_refl _) h, fun ⟨b, h1, h2, h3⟩ => ?_⟩
    rw [he b h1, Int.sub_self, Int.mul_zero] at h3
    omega
  | d + 1, a, f + 1, ha, hf, he => by
    have hq := hP.2.2.1
    obtain ⟨u, u1, u2, u3⟩ := eX5_aimSum (a := a) hP (by omega) hA hZ
    obtain ⟨v, v1, v2, v3⟩ := eX5_aimSum (a := a) hP (by omega) hQ hY
    have wy : zab (zgl Q 1).toInt 23619600 := by rw [hQ.1]; exact zBd_w hY
    have wz : zab (zgl A 1).toInt 23619600 := by rw [hA.1]; exact zBd_w hZ
    have m1 := z64mul u3 wy (by omega)
    have m2 := z64mul v3 wz (by omega)
    rw [u2, hQ.1] at m1
    rw [v2, hA.1] at m2
    have hdir := (hP.2.2.2.2.2.2.2.2.2.2.1 a (by omega)).2
    rw [fX5_compareByAims_2, hP.2.2.2.2.2.1, if_neg (by rw [zI_le (by omega) (by omega)]; omega), u1, zbq, zlq, v1, zbq, zlq]
    by_cases c : zev (zac P a) Z * Y.2.2.2 = zev (zac P a) Y * Z.2.2.2
    · rw [if_pos (by rw [z64eq, m1, m2]; exact c), zlq, zn1, zI_add]
      refine zcmp_2 hP hA hQ hZ hY d (a + 1) f (by omega) (by omega) (fun b hb => ?_)
      by_cases e : b = a
      · rw [e]; exact c
      · exact he b (by omega)
    · rw [if_neg (by rw [z64eq, m1, m2]; exact c)]
      have only : ∀ b, b < q → (∀ k, k < b → zev (zac P k) Z * Y.2.2.2 = zev (zac P k) Y * Z.2.2.2) → 0 < (zga P 7 b).toInt * (zev (zac P b) Z * Y.2.2.2 - zev (zac P b) Y * Z.2.2.2) → b = a := by
        intro b hb h1 h2
        rcases Nat.lt_trichotomy b a with k | k | k
        · rw [he b k, Int.sub_self, Int.mul_zero] at h2; omega
        · exact k
        · exact absurd (h1 a k) c
      unfold fX5_compareByAims_66
      by_cases g : zev (zac P a) Z * Y.2.2.2 ≤ zev (zac P a) Y * Z.2.2.2
      · rw [if_pos (by rw [z64le, m1, m2]; exact g), eX5_directionOf (by omega), zbq]
        rcases hdir with k | k
        · rw [k]
          refine ⟨_, rfl, fun h => absurd (by decide) h, fun ⟨b, h1, h2, h3⟩ => ?_⟩
          rw [only b h1 h2 h3, k, show (1 : Int32).toInt = 1 by decide] at h3
          omega
        · rw [k]
          refine ⟨_, rfl, fun _ => ⟨a, by omega, he, ?_⟩, fun _ => by decide⟩
          rw [k, show (-1 : Int32).toInt = -1 by decide]
          omega
      · rw [if_neg (by rw [z64le, m1, m2]; exact g), eX5_directionOf (by omega), zbq]
        rcases hdir with k | k
        · rw [k]
          refine ⟨_, rfl, fun _ => ⟨a, by omega, he, ?_⟩, fun _ => by decide⟩
          rw [k, show (1 : Int32).toInt = 1 by decide]
          omega
        · rw [k]
          refine ⟨_, rfl, fun h => absurd (by decide) h, fun ⟨b, h1, h2, h3⟩ => ?_⟩
          rw [only b h1 h2 h3, k, show (-1 : Int32).toInt = -1 by decide] at h3
          omega
theorem eX5_compareByAims {n m q : Nat} {P A Q : zSt} {Z Y : zV} (hP : zPw n m q P) (hA : zQp A Z) (hQ : zQp Q Y) (hZ : zBd Z) (hY : zBd Y) : ∃ c, fX5_compareByAims P A Q = some c ∧ (¬ c ≤ 0 ↔ zcmpb P q Z Y) := by
  unfold fX5_compareByAims
  rw [zn0]
  exact zcmp_2 hP hA hQ hZ hY q 0 6000 (by omega) (by have := hP.2.2.1; omega) (fun b hb => by omega)
theorem zGaim_c (P : zSt) (a : Nat) : ∃ c : Int, ∀ X, zev (zGaim P a) X = (zga P 7 a).toInt * zev (zac P a) X - c * X.2.2.2 := by
  refine ⟨(zga P 7 a).toInt * (zga P 6 (a * 3 + 0)).toInt * (zga P 0 0).toInt + (zga P 7 a).toInt * (zga P 6 (a * 3 + 1)).toInt * (zga P 0 1).toInt + (zga P 7 a).toInt * (zga P 6 (a * 3 + 2)).toInt * (zga P 0 2).toInt, fun X => ?_⟩
  unfold zGaim zac zev
  simp only [Nat.add_zero]
  generalize (zga P 7 a).toInt = d
  generalize (zga P 6 (a * 3)).toInt = c0
  generalize (zga P 6 (a * 3 + 1)).toInt = c1
  generalize (zga P 6 (a * 3 + 2)).toInt = c2
  generalize (zga P 0 0).toInt = l0
  generalize (zga P 0 1).toInt = l1
  generalize (zga P 0 2).toInt = l2
  grind
theorem zopt_path {S : Nat → zV} {cnt : Nat} {G : Nat → zV} {B : zV → Prop} {rest : List Nat} {X Y : zV} (hX : zfeas S cnt X) (hY : zfeas S cnt Y) (hB : B X) (hw : 0 < X.2.2.2) : ∀ (d a : Nat) (A : zV → Prop), zPath S cnt G B (zlst a d ++ rest) A → A Y → ∀ k, a ≤ k → k < a + d → (∀ b, a ≤ b → b < k → zev (G b) Y * X.2.2.2 = zev (G b) X * Y.2.2.2) → zev (G k) Y * X.2.2.2 ≤ zev (G k) X * Y.2.2.2
  | 0, a, A, _, _, k, h1, h2, _ => by omega
  | d + 1, a, A, ⟨A2, ⟨s, v, hs, hst⟩, h2, h3⟩, hAY, k, h1, hk, heq => by
    have hA2 : A2 X := zPath_B _ A2 h3 X hB
    have e1 := (hst X hX (h2 X hA2)).2.mpr hA2
    have e2 := hst Y hY hAY
    have w := hX.1
    by_cases c : k = a
    · rw [c]
      have p : s * (zev (G a) Y * X.2.2.2) ≤ s * (zev (G a) X * Y.2.2.2) := by
        have a1 : s * (zev (G a) Y * X.2.2.2) = (s * zev (G a) Y) * X.2.2.2 := by rw [Int.mul_assoc]
        have a2 : s * (zev (G a) X * Y.2.2.2) = (v * Y.2.2.2) * X.2.2.2 := by
          rw [← Int.mul_assoc, e1, Int.mul_assoc, Int.mul_assoc, Int.mul_comm X.2.2.2]
        rw [a1, a2]
        exact Int.mul_le_mul_of_nonneg_right e2.1 w
      exact Int.le_of_mul_le_mul_left p hs
    · have ea := heq a (Nat.le_refl a) (by omega)
      have hA2Y : A2 Y := by
        refine e2.2.mp ?_
        have p : (s * zev (G a) Y) * X.2.2.2 = (v * Y.2.2.2) * X.2.2.2 := by
          rw [Int.mul_assoc, ea, ← Int.mul_assoc, e1, Int.mul_assoc, Int.mul_assoc, Int.mul_comm X.2.2.2]
        exact Int.eq_of_mul_eq_mul_right (by omega) p
      exact zopt_path hX hY hB hw d (a + 1) A2 h3 hA2Y k (by omega) (by omega) (fun b hb1 hb2 => heq b (by omega) hb2)
theorem zGo_lt {P : zSt} {q a : Nat} (hq : q ≤ 3) (ha : a < q) : zGo P q a = zGaim P a := by
  unfold zGo
  rw [if_pos ⟨ha, by omega⟩]
/-- no point within the sides is better than the walk's -/
theorem zopt {n m q : Nat} {P W D Q : zSt} {o ins : Nat → Nat} {S : Nat → zV} {cnt : Nat} {rest : List Nat} {Y : zV} (hP : zPw n m q P) (hF : zFnd S (zGo P q) cnt n q (zlst 0 q ++ rest) 0 (fun _ => True) W D Q o ins) (h5 : zgi W 5 = 111) (hY : zfeas S cnt Y) : ¬ zcmpb P q Y (zXb (zT S o)) := by
  obtain ⟨hD, hx, hfe, hQ, hout⟩ := hF
  have hsc := zsc_pos hD.2.1.1.1
  have hX : zfeas S cnt (zXb (zT S o)) := ⟨Int.le_of_lt hsc, fun s hs => by rw [zXb_ev]; exact hfe s hs⟩
  have hBX : zFa S W o (zXb (zT S o)) := fun j hj _ => by
    rw [zXb_ev]
    exact zou_val ⟨j, hj, rfl⟩ (by omega) (fun j hj _ => by omega)
  rcases hout with ⟨-, -, hp⟩ | ⟨k, b, -, -, -, e, -⟩
  · rintro ⟨a, ha, h1, h2⟩
    have key := zopt_path hX hY hBX hsc q 0 (fun _ => True) hp trivial a (by omega) (by omega)
    have conv : ∀ b, b < q → zev (zGo P q b) Y * (zXb (zT S o)).2.2.2 - zev (zGo P q b) (zXb (zT S o)) * Y.2.2.2 = (zga P 7 b).toInt * (zev (zac P b) Y * (zXb (zT S o)).2.2.2 - zev (zac P b) (zXb (zT S o)) * Y.2.2.2) := by
      intro b hb
      obtain ⟨c, hc⟩ := zGaim_c P b
      rw [zGo_lt hP.2.2.1 hb, hc, hc]
      generalize zev (zac P b) Y = y
      generalize zev (zac P b) (zXb (zT S o)) = x
      generalize (zXb (zT S o)).2.2.2 = w
      grind
    have k2 := key (fun b _ hb => by
      have := conv b (by omega)
      rw [h1 b hb, Int.sub_self, Int.mul_zero] at this
      omega)
    have := conv a ha
    omega
  · rw [h5] at e
    exact absurd e (by decide)
theorem zcmp_tot {n m q : Nat} {P : zSt} {Z Y : zV} (hP : zPw n m q P) (h1 : ¬ zcmpb P q Z Y) (h2 : ¬ zcmpb P q Y Z) : zeqa P q Z Y := by
  intro b hb
  induction b using Nat.strongRecOn with
  | ind b ih =>
    have hd : zga P 7 b = 1 ∨ zga P 7 b = -1 := (hP.2.2.2.2.2.2.2.2.2.2.1 b hb).2
    have hd2 : (zga P 7 b).toInt = 1 ∨ (zga P 7 b).toInt = -1 := by
      rcases hd with k | k
      · rw [k]; exact Or.inl (by decide)
      · rw [k]; exact Or.inr (by decide)
    have a1 : ¬ 0 < (zga P 7 b).toInt * (zev (zac P b) Z * Y.2.2.2 - zev (zac P b) Y * Z.2.2.2) := fun h => h1 ⟨b, hb, fun k hk => ih k hk (by omega), h⟩
    have a2 : ¬ 0 < (zga P 7 b).toInt * (zev (zac P b) Y * Z.2.2.2 - zev (zac P b) Z * Y.2.2.2) := fun h => h2 ⟨b, hb, fun k hk => (ih k hk (by omega)).symm, h⟩
    rcases hd2 with k | k <;> rw [k] at a1 a2 <;> omega
theorem zeq_trans {x y z a b c : Int} (hb : 0 < b) (h1 : x * b = y * a) (h2 : y * c = z * b) : x * c = z * a := by
  have p : x * c * b = z * a * b := by
    calc x * c * b = (x * b) * c := by rw [Int.mul_assoc, Int.mul_comm c, ← Int.mul_assoc]
      _ = (y * a) * c := by rw [h1]
      _ = (y * c) * a := by rw [Int.mul_assoc, Int.mul_comm a, ← Int.mul_assoc]
      _ = (z * b) * a := by rw [h2]
      _ = z * a * b := by rw [Int.mul_assoc, Int.mul_comm b, ← Int.mul_assoc]
  exact Int.eq_of_mul_eq_mul_right (by omega) p
theorem zeqa_trans {P : zSt} {q : Nat} {X Y Z : zV} (hY : 0 < Y.2.2.2) (h1 : zeqa P q X Y) (h2 : zeqa P q Y Z) : zeqa P q X Z := fun b hb => zeq_trans hY (h1 b hb) (h2 b hb)
/-- better than one that has the same aims -/
theorem zcmp_eq {n m q : Nat} {P : zSt} {X Y Z : zV} (hP : zPw n m q P) (hX : 0 < X.2.2.2) (hY : 0 < Y.2.2.2) (h1 : zcmpb P q Z Y) (h2 : zeqa P q Y X) : zcmpb P q Z X := by
  obtain ⟨a, ha, h3, h4⟩ := h1
  refine ⟨a, ha, fun b hb => zeq_trans hY (h3 b hb) (h2 b (by omega)), ?_⟩
  have e := h2 a ha
  generalize zev (zac P a) Z = z at *
  generalize zev (zac P a) Y = y at *
  generalize zev (zac P a) X = x at *
  generalize (zga P 7 a).toInt = d at *
  have p : d * (z * X.2.2.2 - x * Z.2.2.2) * Y.2.2.2 = d * (z * Y.2.2.2 - y * Z.2.2.2) * X.2.2.2 := by grind
  have p2 : 0 < d * (z * X.2.2.2 - x * Z.2.2.2) * Y.2.2.2 := by
    rw [p]
    exact Int.mul_pos h4 hX
  exact Int.pos_of_mul_pos_left p2 hY

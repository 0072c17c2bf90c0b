/-! 76: looks as a whole. -/
theorem zGleast_ev (P : zSt) {q i : Nat} (hq : q ≤ 3) (hi : i < 3) (X : zV) : zev (zGo P q (3 + i)) X = (zga P 0 i).toInt * X.2.2.2 - zco X i := by
  have e : zGo P q (3 + i) = zGleast P i := by
    unfold zGo
    rw [if_neg (by omega), if_pos (by omega), show 3 + i - 3 = i by omega]
  rw [e]
  unfold zGleast
  exact zEn_ev i _ X hi
theorem zTn_co (O : zSt) {n : Nat} (hn : n < 3) (p : Nat) : zTn O n p = -zco (zVp O p) n := by
  rcases zlt3 hn with rfl | rfl | rfl <;> rfl
theorem zFM_eq {A B : zSt} (h : zFM A B) {np : Nat} : (∀ p, zVp B p = zVp A p) ∧ (zbP A np → zbP B np) := by
  refine ⟨fun p => by unfold zVp; rw [h.2.2.2 21, h.2.2.2 22], fun g => by unfold zbP; rw [h.2.2.2 21, h.2.2.2 22]; exact g⟩
def zSame (X Y : zV) : Prop := ∀ i, i < 3 → zco X i * Y.2.2.2 = zco Y i * X.2.2.2
section ZLK
variable {n m q : Nat} {P : zSt} {S : Nat → zV} {cnt np : Nat} {B : zV → Prop}
theorem zleast_path (hP : zPw n m q P) (hnp : np ≤ 600) : ∀ (d i f : Nat) (O : zSt) (A : zV → Prop), i + d ≤ 3 → zbP O np → zgi O 32 = zI np → (∀ p, p < np → zfeas S cnt (zVp O p)) → (∀ p, p < np → (zga O 25 p ≠ 0 ↔ A (zVp O p))) → zPath S cnt (zGo P q) B (zlst (3 + i) d) A → (∃ p, p < np ∧ B (zVp O p)) →
    ∃ (O3 : zSt) (A3 : zV → Prop), (d = 0 → O3 = O ∧ A3 = A) ∧ fX12_findsLeast_2 (f + d) O (zI i) = fX12_findsLeast_2 f O3 (zI (i + d)) ∧ zFM O O3 ∧ (∀ p, p < np → (zga O3 25 p ≠ 0 ↔ A3 (zVp O p))) ∧ (∀ X, B X → A3 X) ∧ (∀ X, A3 X → A X) ∧ (0 < d → ∃ fd, zgi O3 35 = zI fd ∧ fd < np ∧ A3 (zVp O fd)) ∧ ∀ k, i ≤ k → k < i + d → ∀ X Y, zfeas S cnt X → zfeas S cnt Y → A3 X → A3 Y → zco X k * Y.2.2.2 = zco Y k * X.2.2.2
  | 0, i, f, O, A, hi, hb, h32, hfe, hA, hp, hex => ⟨O, A, fun _ => ⟨rfl, rfl⟩, rfl, zFM.refl O, hA, hp, fun _ h => h, fun h => by omega, fun k h1 h2 => by omega⟩
  | d + 1, i, f, O, A, hi, hb, h32, hfe, hA, hp, hex => by
    have hq := hP.2.2.1
    obtain ⟨A2, ⟨s, v, hs, hst⟩, hA2, hp2⟩ := hp
    have hBA2 := zPath_B _ _ hp2
    obtain ⟨p0, hp0, hB0⟩ := hex
    have hstep : ∀ X, zfeas S cnt X → A X → s * (-zco X i) ≤ (v - s * (zga P 0 i).toInt) * X.2.2.2 ∧ (s * (-zco X i) = (v - s * (zga P 0 i).toInt) * X.2.2.2 ↔ A2 X) := by
      intro X hX hAX
      obtain ⟨g1, g2⟩ := hst X hX hAX
      rw [zGleast_ev P hq (by omega)] at g1 g2
      have e1 : s * ((zga P 0 i).toInt * X.2.2.2 - zco X i) = s * (zga P 0 i).toInt * X.2.2.2 + s * (-zco X i) := by
        rw [Int.mul_sub, Int.mul_neg, Int.mul_assoc]
        omega
      have e2 : (v - s * (zga P 0 i).toInt) * X.2.2.2 = v * X.2.2.2 - s * (zga P 0 i).toInt * X.2.2.2 := Int.sub_mul _ _ _
      rw [e1] at g1 g2
      rw [e2]
      refine ⟨by omega, ?_⟩
      rw [← g2]
      constructor <;> intro h <;> omega
    obtain ⟨O1, fd, k1, k2, k3, k4, k5, k6⟩ := zle_one (O := O) (n := i) (np := np) (f + d) (by omega) hb hnp h32 (A := fun p => A (zVp O p)) (A2 := fun p => A2 (zVp O p)) hA hs (v := v - s * (zga P 0 i).toInt) (fun p hp hAp => by
      have := hstep _ (hfe p hp) hAp
      rw [zTn_co O (by omega)]
      exact this) (fun p h => hA2 _ h) ⟨p0, hp0, hBA2 _ hB0⟩
    have fe := zFM_eq k2 (np := np)
    obtain ⟨O3, A3, g0, g1, g2, g3, g4, g5, g6, g7⟩ := zleast_path hP hnp d (i + 1) f O1 A2 (by omega) (fe.2 hb) (by rw [k2.1 32 (by omega)]; exact h32) (fun p hp => by rw [fe.1]; exact hfe p hp) (fun p hp => by rw [fe.1]; exact k3 p hp) (by rw [show 3 + (i + 1) = 3 + i + 1 by omega]; exact hp2) ⟨p0, hp0, by rw [fe.1]; exact hB0⟩
    refine ⟨O3, A3, fun h => by omega, ?_, k2.trans g2, fun p hp => by rw [g3 p hp, fe.1], g4, fun X h => hA2 X (g5 X h), fun _ => ?_, fun k h1 h2 X Y hX hY hAX hAY => ?_⟩
    · rw [show f + (d + 1) = f + d + 1 by omega, k1, g1, show i + 1 + d = i + (d + 1) by omega]
    · by_cases c : 0 < d
      · obtain ⟨fd2, r1, r2, r3⟩ := g6 c
        exact ⟨fd2, r1, r2, by rw [← fe.1]; exact r3⟩
      · have hd0 : d = 0 := by omega
        obtain ⟨rfl, rfl⟩ := g0 hd0
        exact ⟨fd, k6, k4, k5⟩
    · by_cases c : k = i
      · subst c
        have ex := (hstep X hX (hA2 X (g5 X hAX))).2.mpr (g5 X hAX)
        have ey := (hstep Y hY (hA2 Y (g5 Y hAY))).2.mpr (g5 Y hAY)
        apply Int.eq_of_mul_eq_mul_left (show s ≠ 0 by omega)
        have x1 : s * (zco X k * Y.2.2.2) = -(s * (-zco X k) * Y.2.2.2) := by grind
        have x2 : s * (zco Y k * X.2.2.2) = -(s * (-zco Y k) * X.2.2.2) := by grind
        rw [x1, x2, ex, ey]
        grind
      · exact g7 k (by omega) (by omega) X Y hX hY hAX hAY
theorem zleast_zero (hnp : np ≤ 600) : ∀ (d i f : Nat) (O : zSt) (A : zV → Prop), i + d = 3 → zbP O np → zgi O 32 = zI np → (∀ p, p < np → (zga O 25 p ≠ 0 ↔ A (zVp O p))) → (∃ p, p < np ∧ A (zVp O p)) → (∀ p, p < np → ∀ k, i ≤ k → k < 3 → zco (zVp O p) k = 0) →
    ∃ O3 : zSt, (d = 0 → O3 = O) ∧ fX12_findsLeast_2 (f + 1 + d) O (zI i) = some O3 ∧ zFM O O3 ∧ (0 < d → ∃ fd, zgi O3 35 = zI fd ∧ fd < np ∧ A (zVp O fd))
  | 0, i, f, O, A, hi, hb, h32, hA, hex, hz => by
    refine ⟨O, fun _ => rfl, ?_, zFM.refl O, fun h => by omega⟩
    rw [Nat.add_zero, fX12_findsLeast_2, if_pos (by rw [zn3, zI_le (by omega) (by omega)]; omega)]
  | d + 1, i, f, O, A, hi, hb, h32, hA, hex, hz => by
    obtain ⟨p0, hp0, hA0⟩ := hex
    obtain ⟨O1, fd, k1, k2, k3, k4, k5, k6⟩ := zle_one (O := O) (n := i) (np := np) (f + 1 + d) (by omega) hb hnp h32 (A := fun p => A (zVp O p)) (A2 := fun p => A (zVp O p)) hA (show (0 : Int) < 1 by omega) (v := 0) (fun p hp hAp => by
      rw [zTn_co O (by omega), hz p hp i (Nat.le_refl i) (by omega)]
      refine ⟨by omega, ⟨fun _ => hAp, fun _ => by omega⟩⟩) (fun p h => h) ⟨p0, hp0, hA0⟩
    have fe := zFM_eq k2 (np := np)
    obtain ⟨O3, g0, g1, g2, g3⟩ := zleast_zero hnp d (i + 1) f O1 A (by omega) (fe.2 hb) (by rw [k2.1 32 (by omega)]; exact h32) (fun p hp => by rw [fe.1]; exact k3 p hp) ⟨p0, hp0, by rw [fe.1]; exact hA0⟩ (fun p hp k h1 h2 => by rw [fe.1]; exact hz p hp k (by omega) h2)
    refine ⟨O3, fun h => by omega, ?_, k2.trans g2, fun _ => ?_⟩
    · rw [show f + 1 + (d + 1) = f + 1 + d + 1 by omega, k1, g1]
    · by_cases c : 0 < d
      · obtain ⟨fd2, r1, r2, r3⟩ := g3 c
        exact ⟨fd2, r1, r2, by rw [← fe.1]; exact r3⟩
      · have := g0 (by omega)
        subst this
        exact ⟨fd, k6, k4, k5⟩
/-- the least point: the last of the path -/
theorem zleast_all (hP : zPw n m q P) (hnp : np ≤ 600) {O : zSt} {A : zV → Prop} (hb : zbP O np) (h32 : zgi O 32 = zI np) (hfe : ∀ p, p < np → zfeas S cnt (zVp O p)) (hA : ∀ p, p < np → (zga O 25 p ≠ 0 ↔ A (zVp O p))) (hp : zPath S cnt (zGo P q) B (zlst 3 n) A) (hex : ∃ p, p < np ∧ B (zVp O p)) (hz : ∀ p, p < np → ∀ k, n ≤ k → k < 3 → zco (zVp O p) k = 0) {X : zV} (hX : zfeas S cnt X) (hBX : B X) (hXz : ∀ k, n ≤ k → k < 3 → zco X k = 0) : ∃ O3 fd, fX12_findsLeast O = some O3 ∧ zFM O O3 ∧ zgi O3 35 = zI fd ∧ fd < np ∧ zSame (zVp O fd) X := by
  have hn := hP.1
  have hc3 : 0 < 3 - n ∨ (3 - n = 0 ∧ 0 < n) := by omega
  have key : ∀ f, ∃ O3 fd, fX12_findsLeast_2 (f + 4) O (zI 0) = some O3 ∧ zFM O O3 ∧ zgi O3 35 = zI fd ∧ fd < np ∧ zSame (zVp O fd) X := by
    intro f
    obtain ⟨O1, A1, g0, g1, g2, g3, g4, g5, g6, g7⟩ := zleast_path hP hnp n 0 (f + 4 - n) O A (by omega) hb h32 hfe hA hp hex
    have fe := zFM_eq g2 (np := np)
    obtain ⟨p0, hp0, hB0⟩ := hex
    obtain ⟨O3, r0, r1, r2, r3⟩ := zleast_zero hnp (3 - n) n f O1 A1 (by omega) (fe.2 hb) (by rw [g2.1 32 (by omega)]; exact h32) (fun p hp => by rw [fe.1]; exact g3 p hp) ⟨p0, hp0, by rw [fe.1]; exact g4 _ hB0⟩ (fun p hp k h1 h2 => by rw [fe.1]; exact hz p hp k h1 h2)
    have hfd : ∃ fd, zgi O3 35 = zI fd ∧ fd < np ∧ A1 (zVp O fd) := by
      rcases hc3 with c | ⟨c, c2⟩
      · obtain ⟨fd, q1, q2, q3⟩ := r3 c
        exact ⟨fd, q1, q2, by rw [← fe.1]; exact q3⟩
      · have := r0 c
        subst this
        exact g6 c2
    obtain ⟨fd, q1, q2, q3⟩ := hfd
    refine ⟨O3, fd, ?_, g2.trans r2, q1, q2, fun k hk => ?_⟩
    · have e1 : f + 4 - n + n = f + 4 := by omega
      have e2 : f + 1 + (3 - n) = f + 4 - n := by omega
      rw [e1, Nat.zero_add] at g1
      rw [e2] at r1
      rw [g1, r1]
    · by_cases c : k < n
      · exact g7 k (Nat.zero_le k) (by omega) _ _ (hfe fd q2) hX q3 (g4 X hBX)
      · rw [hz fd q2 k (by omega) hk, hXz k (by omega) hk]
        simp
  unfold fX12_findsLeast
  rw [zn0]
  exact key 5996
end ZLK

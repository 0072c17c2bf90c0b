/-! 92: the conflict. -/
theorem zbits_tb {f : Nat → Bool} {m i : Nat} : (zbits f m).testBit i = (decide (i < m) && f i) := by
  rw [Nat.testBit_eq_decide_div_mod_eq]
  by_cases c : i < m
  · rw [zbits_div f c, decide_eq_true c, Bool.true_and]
    cases f i <;> simp
  · have h1 := zbits_lt f m
    have h2 : (2 : Nat) ^ m ≤ 2 ^ i := Nat.pow_le_pow_right (by omega) (by omega)
    rw [Nat.div_eq_of_lt (by omega), decide_eq_false c, Bool.false_and]
    rfl
theorem zbits_or (f g : Nat → Bool) (m : Nat) : zbits f m ||| zbits g m = zbits (fun i => f i || g i) m := by
  apply Nat.eq_of_testBit_eq
  intro i
  rw [Nat.testBit_or, zbits_tb, zbits_tb, zbits_tb]
  cases decide (i < m) <;> simp
theorem zbits_one {r m : Nat} (h : r < m) : zbits (fun i => decide (i = r)) m = 2 ^ r := by
  apply Nat.eq_of_testBit_eq
  intro i
  rw [zbits_tb, Nat.testBit_two_pow]
  by_cases c : i = r
  · rw [decide_eq_true c, decide_eq_true (by omega), decide_eq_true (show r = i by omega)]; rfl
  · rw [decide_eq_false c, Bool.and_false, decide_eq_false (show ¬ r = i by omega)]
theorem zbits_sub {f : Nat → Bool} {r : Nat} (hf : f r = true) : ∀ {m : Nat}, r < m → zbits f m = zbits (fun i => f i && decide (i ≠ r)) m + 2 ^ r
  | 0, h => by omega
  | m + 1, h => by
    have e : ∀ g : Nat → Bool, zbits g (m + 1) = zbits g m + if g m then 2 ^ m else 0 := fun g => rfl
    rw [e, e]
    by_cases c : r = m
    · subst c
      rw [if_pos hf, if_neg (by simp)]
      rw [zbits_congr (f := fun i => f i && decide (i ≠ r)) (g := f) (m := r) (fun i hi => by
        show (f i && decide (i ≠ r)) = f i
        rw [decide_eq_true (by omega), Bool.and_true])]
      omega
    · have ih := zbits_sub hf (show r < m by omega)
      rw [ih]
      have e2 : (f m && decide (m ≠ r)) = f m := by rw [decide_eq_true (by omega), Bool.and_true]
      rw [e2]
      omega
section ZCONF
variable {n m q : Nat} {P O O2 : zSt} {y2 y3 x1 x2 : Int32}
theorem zno_pt {G : Nat → zV} {W D : zSt} {o ins : Nat → Nat} {np : Nat} (hP : zPw n m q P) (h : zRl n m q P O) (hs : zSm m P O y2 y3 x1 x2) (hpts : zPts (zPLs O n m x1 x2 false) O2 np) (hF : zFit (zSo (zGa P y2 y3 n m)) G (zGa P y2 y3 n m).length n 0 W D o ins) : np = 0 := by
  have hff := zpts_feas hP h hs hpts
  obtain ⟨hD, -, -, hc⟩ := hF
  rcases hc with ⟨h1, -⟩ | ⟨-, -, b, hb, -, h3, h4⟩
  · cases h1
  · by_cases c : np = 0
    · exact c
    · exfalso
      obtain ⟨⟨f1, f2⟩, f3, -⟩ := hff 0 (by omega)
      have hcr := zc_cramer (zT (zSo (zGa P y2 y3 n m)) o) (zSo (zGa P y2 y3 n m) (ins b)) (zVp O2 0)
      have hsc := zsc_pos hD.2.1.1.1
      have l1 := Int.mul_nonneg (Int.le_of_lt hsc) (f2 _ (hD.2.1.2.1 b hb))
      have t : ∀ j, j < 3 → zc (zT (zSo (zGa P y2 y3 n m)) o) (zSo (zGa P y2 y3 n m) (ins b)) j * zev (zT (zSo (zGa P y2 y3 n m)) o j) (zVp O2 0) ≤ 0 := fun j hj => zmul_np (h4 j hj) (f2 _ (hD.2.1.1.2 j hj))
      have t0 := t 0 (by omega)
      have t1 := t 1 (by omega)
      have t2 := t 2 (by omega)
      have t3 := zmul_mp h3 f3
      omega
/-- one question of the conflict, both ways -/
theorem zfits_both {T s D : zSt} (hP : zPw n m q P) (h : zRl n m q P O) (hs : zSm m P O y2 (-1) x1 x2) (h6 : znb x1 m ≤ 6) : ∃ y T2 s2 D2 O2, fX9_findsFit T P s D y2 = some (y, T2, s2, D2) ∧ fX12_findsPoints O x1 x2 = some O2 ∧ zFP O O2 ∧ (y = 0 ↔ zgi O2 32 = 0) := by
  obtain ⟨y, T2, s2, D2, o, ins, f1, -, f3⟩ := eX9_findsFit hP T s D y2
  obtain ⟨O2, np, g1, g2, g3⟩ := eX12_findsPoints (n := n) (m := m) (O := O) x1 x2 h6 (zRl_ow hP h)
  refine ⟨y, T2, s2, D2, O2, f1, g1, g2, ?_⟩
  have hnp := g3.2.1
  rw [g3.1, zn0, zI_eq (by omega) (by omega)]
  rcases f3.2.2.2 with ⟨k1, -, k2⟩ | ⟨k1, k2⟩
  · obtain ⟨p, hp, -⟩ := zpoint_in hP h hs g3 f3.1.2.1.1 f3.2.1 k2
    rw [k1]
    exact ⟨fun h => absurd h (by decide), fun h => by omega⟩
  · rw [k1]
    refine ⟨fun _ => zno_pt hP h hs g3 (G := zGo P q) (W := T2) (D := D2) (o := o) (ins := ins) ?_, fun _ => rfl⟩
    rw [k1] at f3
    exact f3
end ZCONF
theorem zcf_loop {n m q : Nat} {P C W s D Q : zSt} (hP : zPw n m q P) : ∀ (d r fc fo : Nat) (T sT dT O : zSt) (g c f : Nat → Bool), r + d = m → d < fc → d < fo → zRl n m q P O → (∀ i, i < m → f i = (decide (zga P 5 i ≠ 0) && !g i)) → (∀ i, i < r → c i = f i) → (∀ i, r ≤ i → c i = false) → (∀ i, r ≤ i → g i = false) → ∃ v T2 sT2 dT2 O2, fX11_conflict_36 C P fc W s D Q T sT dT (zI (zbits g m)) (zI (zbits c m)) (zI r) = some (.inr v, W, s, D, Q, T2, sT2, dT2) ∧ fX12_conflict_34 fo O (zI (zbits f m)) (zI r) = some (v, O2) ∧ zFLk O O2
  | 0, r, fc + 1, fo + 1, T, sT, dT, O, g, c, f, hr, hfc, hfo, hR, h1, h2, h3, h4 => by
    have e : r = m := by omega
    subst e
    rw [fX11_conflict_36, fX12_conflict_34, hP.2.2.2.2.1, hR.2.1, if_pos (Int32.le_refl _), if_pos (Int32.le_refl _), zbits_congr h2]
    exact ⟨_, T, sT, dT, O, rfl, rfl, zFLk.refl O⟩
  | d + 1, r, fc + 1, fo + 1, T, sT, dT, O, g, c, f, hr, hfc, hfo, hR, h1, h2, h3, h4 => by
    have hm := hP.2.1
    have hrm : r < m := by omega
    have l12 : (2 : Nat) ^ m ≤ 2 ^ 12 := Nat.pow_le_pow_right (by omega) hm
    have e12 : (2 : Nat) ^ 12 = 4096 := rfl
    have hlf := zbits_lt f m
    have hle : zbits f m / 2 ^ r ≤ zbits f m := Nat.div_le_self _ _
    have etest : (zI (zbits f m) >>> (zI r &&& 31)) - (zI (zbits f m) >>> (zI r &&& 31)) / (2 : Int32) * (2 : Int32) = zI (if f r then 1 else 0) := by
      rw [zI_shr (by omega) (by omega), zI_half (by omega), zbits_div f hrm]
    have hfr := h1 r hrm
    rw [h4 r (Nat.le_refl r)] at hfr
    rw [fX11_conflict_36, fX12_conflict_34, hP.2.2.2.2.1, hR.2.1, if_neg (by rw [zI_le (by omega) (by omega)]; omega), if_neg (by rw [zI_le (by omega) (by omega)]; omega), eX5_isLive (by omega), zbq, etest]
    by_cases cl : zga P 5 r = 0
    · have fr : f r = false := by rw [hfr, decide_eq_false (fun h => h cl)]; rfl
      rw [if_pos cl, if_pos rfl, fr, if_pos (show zI (if false = true then 1 else 0) = 0 from rfl)]
      unfold fX11_conflict_90 fX12_conflict_76
      rw [zlq, zlq, zI_succ]
      exact zcf_loop hP d (r + 1) fc fo T sT dT O g c f (by omega) (by omega) (by omega) hR h1 (fun i hi => by
        by_cases e : i = r
        · rw [e, h3 r (Nat.le_refl r), fr]
        · exact h2 i (by omega)) (fun i hi => h3 i (by omega)) (fun i hi => h4 i (by omega))
    · have fr : f r = true := by rw [hfr, decide_eq_true cl]; rfl
      have eg : zI (zbits g m) ||| zI (2 ^ r) = zI (zbits (fun i => g i || decide (i = r)) m) := by
        rw [zI_or, ← zbits_one hrm, zbits_or]
      have ec : zI (zbits c m) ||| zI (2 ^ r) = zI (zbits (fun i => c i || decide (i = r)) m) := by
        rw [zI_or, ← zbits_one hrm, zbits_or]
      have ef : zI (zbits f m) - zI (2 ^ r) = zI (zbits (fun i => f i && decide (i ≠ r)) m) := by
        have e := zbits_sub fr hrm
        rw [zI_sub (by omega)]
        congr 1
        omega
      have hnew : ∀ i, i < m → (fun i => f i && decide (i ≠ r)) i = (decide (zga P 5 i ≠ 0) && !(fun i => g i || decide (i = r)) i) := by
        intro i hi
        show (f i && decide (i ≠ r)) = (decide (zga P 5 i ≠ 0) && !(g i || decide (i = r)))
        rw [h1 i hi]
        by_cases e : i = r
        · rw [decide_eq_false (show ¬ i ≠ r from fun h => h e), decide_eq_true e]
          simp
        · rw [decide_eq_true (show i ≠ r from e), decide_eq_false e]
          simp
      obtain ⟨hs, h6⟩ := zSm_bits hP hR (f := fun i => f i && decide (i ≠ r)) (g := fun i => g i || decide (i = r)) (fun i hi => by
        rw [show (f i && decide (i ≠ r)) = _ from hnew i hi]
        simp) (-1)
      obtain ⟨y, T2, s2, D2, O2, k1, k2, k3, k4⟩ := zfits_both (T := T) (s := sT) (D := dT) hP hR hs h6
      have hR2 := zRl_k hR (zFLk_P k3)
      rw [if_neg cl, if_neg (show ¬ (1 : Int32) = 0 by decide), zlq, zshl1 r (by omega), eg, k1, zbq, fr, if_neg (show ¬ zI (if true = true then 1 else 0) = 0 by decide), ef, k2, zbq]
      unfold fX11_conflict_90 fX12_conflict_76
      by_cases cy : y = 0
      · rw [if_pos cy, if_pos (k4.mp cy), zlq, zlq, zlq, zlq, zI_succ]
        obtain ⟨v, T3, s3, D3, O3, w1, w2, w3⟩ := zcf_loop hP d (r + 1) fc fo T2 s2 D2 O2 (fun i => g i || decide (i = r)) c (fun i => f i && decide (i ≠ r)) (by omega) (by omega) (by omega) hR2 hnew (fun i hi => by
          show c i = (f i && decide (i ≠ r))
          by_cases e : i = r
          · rw [e, h3 r (Nat.le_refl r)]; simp
          · rw [h2 i (by omega), decide_eq_true (show i ≠ r from e), Bool.and_true]) (fun i hi => h3 i (by omega)) (fun i hi => by
          show (g i || decide (i = r)) = false
          rw [h4 i (by omega), decide_eq_false (by omega)]; rfl)
        exact ⟨v, T3, s3, D3, O3, w1, w2, (zFLk_P k3).trans w3⟩
      · rw [if_neg cy, if_neg (fun h => cy (k4.mpr h)), zlq, zlq, zlq, zI_succ, ec]
        obtain ⟨v, T3, s3, D3, O3, w1, w2, w3⟩ := zcf_loop hP d (r + 1) fc fo T2 s2 D2 O2 g (fun i => c i || decide (i = r)) f (by omega) (by omega) (by omega) hR2 h1 (fun i hi => by
          show (c i || decide (i = r)) = f i
          by_cases e : i = r
          · rw [e, fr]; simp
          · rw [h2 i (by omega), decide_eq_false e, Bool.or_false]) (fun i hi => by
          show (c i || decide (i = r)) = false
          rw [h3 i (by omega), decide_eq_false (by omega)]; rfl) (fun i hi => h4 i (by omega))
        exact ⟨v, T3, s3, D3, O3, w1, w2, (zFLk_P k3).trans w3⟩

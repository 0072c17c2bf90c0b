/-! 93: the first aim with one row raised. -/
theorem zfnd_any {n m q : Nat} {P W1 D1 : zSt} {o ins : Nat → Nat} {x2 x3 : Int32} (hP : zPw n m q P) (f3 : zFit (zSo (zGa P x2 x3 n m)) (zGo P q) (zGa P x2 x3 n m).length n 1 W1 D1 o ins) : ∃ W3 D3 Q3 o3 ins3, zFnd (zSo (zGa P x2 x3 n m)) (zGo P q) (zGa P x2 x3 n m).length n q (zlst 0 q ++ zlst 3 n) 0 (fun _ => True) W3 D3 Q3 o3 ins3 := by
  rcases f3.2.2.2 with ⟨h1, h2, h3⟩ | ⟨h1, h2⟩
  · obtain ⟨W3, D3, Q3, o3, ins3, g1, -, g2, g3, g4, g5, g6⟩ := zaims (sS := W1) hP q 0 6000 W1 D1 W1 o ins (by omega) (by have := hP.2.2.1; omega) f3.1 f3.2.1 h3 ⟨fun a ha => by omega, fun h => by omega⟩ h2 (fun _ => f3.2.2.1)
    refine ⟨W3, D3, Q3, o3, ins3, g2, g3, g4, g5, ?_⟩
    have tr : ∀ L A, (∀ X, A X) → zPath (zSo (zGa P x2 x3 n m)) (zGa P x2 x3 n m).length (zGo P q) (zFa (zSo (zGa P x2 x3 n m)) W3 o3) L A → zPath (zSo (zGa P x2 x3 n m)) (zGa P x2 x3 n m).length (zGo P q) (zFa (zSo (zGa P x2 x3 n m)) W3 o3) L (fun _ => True) := by
      intro L A hA h
      cases L with
      | nil => exact fun X _ => trivial
      | cons g gs =>
        obtain ⟨A2, ⟨s, v, h1, h2⟩, h3, h4⟩ := h
        exact ⟨A2, ⟨s, v, h1, fun X hX _ => h2 X hX (hA X)⟩, fun _ _ => trivial, h4⟩
    have hA : ∀ X, zFa (zSo (zGa P x2 x3 n m)) W1 o X := fun X j hj hne => absurd (f3.2.2.1 j hj) hne
    rcases g6 with ⟨k1, k2, k3⟩ | ⟨k, b, k0, k1, k2, k3, k4, k5, k6, k7⟩
    · exact Or.inl ⟨k1, k2, tr _ _ hA k3⟩
    · exact Or.inr ⟨k, b, k0, k1, k2, k3, k4, k5, tr _ _ hA k6, k7⟩
  · exact absurd h1 (by decide)
/-- the head of a path bounds its goal -/
theorem zhead {S : Nat → zV} {cnt : Nat} {G : Nat → zV} {B : zV → Prop} {g : Nat} {gs : List Nat} {X : zV} (h : zPath S cnt G B (g :: gs) (fun _ => True)) (hX : zfeas S cnt X) (hB : B X) : ∃ s v : Int, 0 < s ∧ (∀ Y, zfeas S cnt Y → s * zev (G g) Y ≤ v * Y.2.2.2) ∧ s * zev (G g) X = v * X.2.2.2 := by
  obtain ⟨A2, ⟨s, v, h1, h2⟩, -, h4⟩ := h
  exact ⟨s, v, h1, fun Y hY => (h2 Y hY trivial).1, (h2 X hX trivial).2.mpr (zPath_B gs A2 h4 X hB)⟩
section ZFIRST
variable {n m q : Nat} {P O : zSt} {y3 x1 x2 : Int32}
theorem eX9_findsFirstValue {V s D Q : zSt} (hP : zPw n m q P) (hq : 0 < q) (h : zRl n m q P O) (hs : zSm m P O 0 y3 x1 x2) (h6 : znb x1 m ≤ 6) : ∃ y V2 s2 D2 Q2 O2, fX9_findsFirstValue V P s D Q y3 = some (y, V2, s2, D2, Q2) ∧ fX12_looks O x1 x2 = some O2 ∧ zFLk O O2 ∧ ((y = 0 ∧ (zgi O2 36 = 105 ∨ zgi O2 34 = 0)) ∨ (y = 1 ∧ zgi O2 36 ≠ 105 ∧ zgi O2 34 ≠ 0 ∧ ∃ X, zQp Q2 X ∧ zBd X ∧ zVal O 0 X O2)) := by
  have hq3 := hP.2.2.1
  obtain ⟨W0, D0, y, W1, s2, D1, o, ins, f1, f0, -, f2, f3⟩ := eX9_outs hP V s D 0 y3
  unfold fX9_findsFirstValue
  rw [f1, zbq, f0, zbq]
  have fin : ∀ (b : Int32) (W2 D2 : zSt) (o2 ins2 : Nat → Nat), (b = 0 ∨ b = 1) → zDic (zSo (zGa P 0 y3 n m)) (zGo P q) (zGa P 0 y3 n m).length o2 ins2 D2 → ∃ Q2, fX9_findsFirstValue_29 P W2 s2 D2 Q b = some (b, W2, s2, D2, Q2) ∧ zPt Q2 n (zXb (zT (zSo (zGa P 0 y3 n m)) o2)) := by
    intro b W2 D2 o2 ins2 hb hD2
    obtain ⟨Q2, g1, g2⟩ := eX9_stand hP hD2 W2 Q
    unfold fX9_findsFirstValue_29
    have hz : znar .boolean b = true := by
      rcases hb with e | e
      · rw [e]; exact znb0
      · rw [e]; exact znb1
    rw [g1, zbq, if_pos hz]
    exact ⟨Q2, rfl, g2⟩
  by_cases cy : y = 0
  · rw [if_pos cy]
    rw [cy] at f3
    obtain ⟨O2, g1, g2, g3, -⟩ := zlk_i hP h hs h6 f3
    obtain ⟨Q2, k1, -⟩ := fin 0 W1 D1 o ins (Or.inl rfl) f3.1
    unfold fX9_findsFirstValue_28
    exact ⟨0, W1, s2, D1, Q2, O2, k1, g1, g2, Or.inl ⟨rfl, Or.inl g3⟩⟩
  · have y1 : y = 1 := by
      rcases f3.2.2.2 with ⟨k, -⟩ | ⟨k, -⟩
      · exact k
      · exact absurd k cy
    rw [y1] at f3
    rw [if_neg cy]
    unfold fX1_goalOfAim
    rw [zbq, show (15 : Int32) + 0 = zI (15 + 0) from rfl]
    have hfe : zFe (zSo (zGa P 0 y3 n m)) (zGa P 0 y3 n m).length o := by
      rcases f3.2.2.2 with ⟨-, -, k⟩ | ⟨k, -⟩
      · exact k
      · exact absurd k (by decide)
    obtain ⟨r, c1, o2, ins2, hD2, hx2, hfe2, -, hq2, hr⟩ := eX9_climbs (W := W1) (g := 0) (zGa_ns hP 0 y3) (by omega) (zGo_ns hP (Or.inl (by omega))) (fun _ => True) (fun _ _ _ _ _ _ _ => trivial) f3.1 f3.2.1 hfe trivial
    obtain ⟨W3, D3, Q3, o3, ins3, hFn⟩ := zfnd_any hP f3
    obtain ⟨O2, l1, l2, l3⟩ := zlk_f hP h hs h6 hFn
    obtain ⟨b, W2, D2⟩ := r
    rw [c1, zbq]
    have hb3 := zDic_bd hFn.1
    have hfe3 := hFn.2.2.1
    have hX3 : zfeas (zSo (zGa P 0 y3 n m)) (zGa P 0 y3 n m).length (zXb (zT (zSo (zGa P 0 y3 n m)) o3)) := ⟨Int.le_of_lt hb3.2.1, fun s hs => by rw [zXb_ev]; exact hfe3 s hs⟩
    have hBX : zFa (zSo (zGa P 0 y3 n m)) W3 o3 (zXb (zT (zSo (zGa P 0 y3 n m)) o3)) := fun j hj _ => by
      rw [zXb_ev]
      exact zou_val ⟨j, hj, rfl⟩ (by omega) (fun j hj _ => by omega)
    -- either the first aim is open in the whole walk, or it is bounded
    have hhead : (zgi O2 34 = 0 ∧ ∃ b, b < 3 ∧ 0 < zc (zT (zSo (zGa P 0 y3 n m)) o3) (zGo P q 0) b ∧ ∀ s, s < (zGa P 0 y3 n m).length → 0 ≤ zc (zT (zSo (zGa P 0 y3 n m)) o3) (zSo (zGa P 0 y3 n m) s) b) ∨ (zgi O2 36 ≠ 105 ∧ zgi O2 34 ≠ 0 ∧ zVal O 0 (zXb (zT (zSo (zGa P 0 y3 n m)) o3)) O2 ∧ ∃ s v : Int, 0 < s ∧ (∀ Y, zfeas (zSo (zGa P 0 y3 n m)) (zGa P 0 y3 n m).length Y → s * zev (zGo P q 0) Y ≤ v * Y.2.2.2) ∧ s * zev (zGo P q 0) (zXb (zT (zSo (zGa P 0 y3 n m)) o3)) = v * (zXb (zT (zSo (zGa P 0 y3 n m)) o3)).2.2.2) := by
      obtain ⟨-, -, -, -, hout⟩ := hFn
      obtain ⟨-, -, -, hl⟩ := l3
      rcases hout with ⟨w5, -, hp⟩ | ⟨k, b, -, hk, hb, w5, w6, -, hp, -, hg, hsd, -⟩
      · right
        rcases hl with ⟨-, e36, e34, hv, -⟩ | ⟨k, -, w, -⟩
        · obtain ⟨q', rfl⟩ : ∃ q', q = q' + 1 := ⟨q - 1, by omega⟩
          refine ⟨by rw [e36]; decide, by rw [e34, zn0]; intro e; rw [zI_eq (by omega) (by omega)] at e; omega, hv 0 (by omega), ?_⟩
          exact zhead (gs := zlst 1 q' ++ zlst 3 n) hp hX3 hBX
        · rw [w5] at w; exact absurd w (by decide)
      · rcases hl with ⟨w, -⟩ | ⟨k2, hk2, -, w6', e36, e34, hv⟩
        · rw [w5] at w; exact absurd w (by decide)
        · have ek : k2 = k := by
            rw [w6, zI_eq (by omega) (by omega)] at w6'
            exact w6'.symm
          subst ek
          by_cases k0 : k2 = 0
          · left
            rw [k0] at hg e34
            exact ⟨e34, b, hb, hg, hsd⟩
          · right
            obtain ⟨k', rfl⟩ : ∃ k', k2 = k' + 1 := ⟨k2 - 1, by omega⟩
            refine ⟨by rw [e36]; decide, by rw [e34, zn0]; intro e; rw [zI_eq (by omega) (by omega)] at e; omega, hv 0 (by omega), ?_⟩
            exact zhead (gs := zlst 1 k') hp hX3 hBX
    have noray : ∀ (s v : Int) (t : Nat → Nat) (b : Nat), 0 < s → (∀ Y, zfeas (zSo (zGa P 0 y3 n m)) (zGa P 0 y3 n m).length Y → s * zev (zGo P q 0) Y ≤ v * Y.2.2.2) → b < 3 → 0 < zc (zT (zSo (zGa P 0 y3 n m)) t) (zGo P q 0) b → (∀ s, s < (zGa P 0 y3 n m).length → 0 ≤ zc (zT (zSo (zGa P 0 y3 n m)) t) (zSo (zGa P 0 y3 n m) s) b) → False := by
      intro s v t b hs hY hb hg hsd
      have e := hY (zXd (zT (zSo (zGa P 0 y3 n m)) t) b) ⟨Int.le_refl 0, fun k hk => by rw [zXd_ev _ _ hb]; exact hsd k hk⟩
      rw [zXd_ev _ _ hb] at e
      have e2 : s * zc (zT (zSo (zGa P 0 y3 n m)) t) (zGo P q 0) b ≤ v * 0 := e
      have := Int.mul_pos hs hg
      omega
    rcases hr with ⟨h1, h2, h3, h4⟩ | ⟨h1, b2, hb2, hW2, -, hg2, hs2⟩
    · have hb1 : b = 1 := h1
      rw [if_neg (show ¬ b = 0 by rw [hb1]; decide)]
      obtain ⟨Q2, k1, k2⟩ := fin 1 W2 D2 o2 ins2 (Or.inr rfl) hD2
      have hbd2 := zDic_bd hD2
      have hface := zface (W2 := W2) hD2.2.1.1 hq2 h2 h4
      have hF2 : ∀ Y, zFa (zSo (zGa P 0 y3 n m)) W1 o Y := fun X j hj hne => absurd (f3.2.2.1 j hj) hne
      have bound2 := fun Y hY => (hface.1 Y hY (hF2 Y)).1
      have hX2 : zfeas (zSo (zGa P 0 y3 n m)) (zGa P 0 y3 n m).length (zXb (zT (zSo (zGa P 0 y3 n m)) o2)) := ⟨Int.le_of_lt hbd2.2.1, fun s hs => by rw [zXb_ev]; exact hfe2 s hs⟩
      rcases hhead with ⟨-, b3, hb3', hg3, hs3⟩ | ⟨e36, e34, hv, sv, vv, hsv, hbound, heq⟩
      · exact (noray _ _ o3 b3 (zsc_pos hD2.2.1.1.1) bound2 hb3' hg3 hs3).elim
      · refine ⟨1, W2, s2, D2, Q2, O2, k1, l1, l2, Or.inr ⟨rfl, e36, e34, _, zPt_qp k2, hbd2, ?_⟩⟩
        -- the values are the same
        have u1 := hbound _ hX2
        have u2 := bound2 _ hX3
        have ev2 : zc (zT (zSo (zGa P 0 y3 n m)) o2) (zGo P q 0) 3 = zev (zGo P q 0) (zXb (zT (zSo (zGa P 0 y3 n m)) o2)) := zc_lin _ _
        have w2 : (zXb (zT (zSo (zGa P 0 y3 n m)) o2)).2.2.2 = zsc (zT (zSo (zGa P 0 y3 n m)) o2) := rfl
        rw [ev2, ← w2] at u2
        have same : zev (zGo P q 0) (zXb (zT (zSo (zGa P 0 y3 n m)) o2)) * (zXb (zT (zSo (zGa P 0 y3 n m)) o3)).2.2.2 = zev (zGo P q 0) (zXb (zT (zSo (zGa P 0 y3 n m)) o3)) * (zXb (zT (zSo (zGa P 0 y3 n m)) o2)).2.2.2 := by
          have p1 : sv * (zev (zGo P q 0) (zXb (zT (zSo (zGa P 0 y3 n m)) o2)) * (zXb (zT (zSo (zGa P 0 y3 n m)) o3)).2.2.2) ≤ sv * (zev (zGo P q 0) (zXb (zT (zSo (zGa P 0 y3 n m)) o3)) * (zXb (zT (zSo (zGa P 0 y3 n m)) o2)).2.2.2) := by
            have a1 := Int.mul_le_mul_of_nonneg_right u1 (Int.le_of_lt hb3.2.1)
            have a2 : sv * (zev (zGo P q 0) (zXb (zT (zSo (zGa P 0 y3 n m)) o3)) * (zXb (zT (zSo (zGa P 0 y3 n m)) o2)).2.2.2) = vv * (zXb (zT (zSo (zGa P 0 y3 n m)) o2)).2.2.2 * (zXb (zT (zSo (zGa P 0 y3 n m)) o3)).2.2.2 := by
              rw [← Int.mul_assoc, heq, Int.mul_assoc, Int.mul_assoc, Int.mul_comm (zXb (zT (zSo (zGa P 0 y3 n m)) o3)).2.2.2]
            rw [a2, ← Int.mul_assoc]
            exact a1
          have p2 := Int.le_of_mul_le_mul_left p1 hsv
          have p3 : (zXb (zT (zSo (zGa P 0 y3 n m)) o2)).2.2.2 * zev (zGo P q 0) (zXb (zT (zSo (zGa P 0 y3 n m)) o3)) ≤ zev (zGo P q 0) (zXb (zT (zSo (zGa P 0 y3 n m)) o2)) * (zXb (zT (zSo (zGa P 0 y3 n m)) o3)).2.2.2 := u2
          rw [Int.mul_comm (zXb (zT (zSo (zGa P 0 y3 n m)) o2)).2.2.2] at p3
          omega
        have ea : zev (zA0 O 0) (zXb (zT (zSo (zGa P 0 y3 n m)) o2)) * (zXb (zT (zSo (zGa P 0 y3 n m)) o3)).2.2.2 = zev (zA0 O 0) (zXb (zT (zSo (zGa P 0 y3 n m)) o3)) * (zXb (zT (zSo (zGa P 0 y3 n m)) o2)).2.2.2 := by
          obtain ⟨c, hc⟩ := zGaim_ev h hq
          have sg : zsm O 0 = 1 ∨ zsm O 0 = -1 := by
            unfold zsm
            split
            · exact Or.inr rfl
            · exact Or.inl rfl
          rw [zGo_lt hq3 hq, hc, hc] at same
          generalize zev (zA0 O 0) (zXb (zT (zSo (zGa P 0 y3 n m)) o2)) = u at *
          generalize zev (zA0 O 0) (zXb (zT (zSo (zGa P 0 y3 n m)) o3)) = w at *
          generalize (zXb (zT (zSo (zGa P 0 y3 n m)) o2)).2.2.2 = a at *
          generalize (zXb (zT (zSo (zGa P 0 y3 n m)) o3)).2.2.2 = b at *
          rcases sg with e | e <;> rw [e] at same <;> grind
        unfold zVal at hv ⊢
        rw [zlow_eq (t1 := zev (zA0 O 0) (zXb (zT (zSo (zGa P 0 y3 n m)) o2))) (t2 := zev (zA0 O 0) (zXb (zT (zSo (zGa P 0 y3 n m)) o3))) (by have := hbd2.2.1; omega) (b2 := (zXb (zT (zSo (zGa P 0 y3 n m)) o3)).2.2.2.toNat) (by have := hb3.2.1; omega) (by
          rw [Int.toNat_of_nonneg (Int.le_of_lt hbd2.2.1), Int.toNat_of_nonneg (Int.le_of_lt hb3.2.1)]
          exact ea)]
        exact hv
    · have hb0 : b = 0 := h1
      rw [if_pos hb0]
      obtain ⟨Q2, k1, -⟩ := fin 0 W2 D2 o2 ins2 (Or.inl rfl) hD2
      unfold fX9_findsFirstValue_28
      refine ⟨0, W2, s2, D2, Q2, O2, k1, l1, l2, Or.inl ⟨rfl, ?_⟩⟩
      rcases hhead with ⟨e, -⟩ | ⟨-, -, -, sv, vv, hsv, hbound, -⟩
      · exact Or.inr e
      · exact (noray sv vv o2 b2 hsv hbound hb2 hg2 hs2).elim
end ZFIRST

/-! 74: each basis that fits gives a point, each open column a ray. -/
theorem zhold_scale {kd : Nat} {a b s w : Int} (hs : 0 < s) (hw : 0 < w) (e : s * b = a * w) (h : zhold kd a) : zhold kd b := by
  refine ⟨fun hk => ?_, fun hk => ?_, fun hk => ?_⟩
  · have h1 := zmul_np (h.1 hk) (Int.le_of_lt hw)
    by_cases c : 0 < b
    · have := Int.mul_pos hs c; omega
    · omega
  · have h1 := Int.mul_nonneg (h.2.1 hk) (Int.le_of_lt hw)
    by_cases c : b < 0
    · have := zmul_mp c hs
      rw [Int.mul_comm] at this
      omega
    · omega
  · rw [h.2.2 hk, Int.zero_mul] at e
    rcases Int.mul_eq_zero.mp e with h1 | h1
    · omega
    · exact h1
theorem zPo_eq {O : zSt} {p : Nat} {X : zV} (h : zPo O p X) : zVp O p = X := by
  obtain ⟨x0, x1, x2, x3⟩ := X
  obtain ⟨h1, h2, -⟩ := h
  have e0 : (zgb O 21 (3 * p)).toInt = x0 := h1 0 (by omega)
  have e1 : (zgb O 21 (3 * p + 1)).toInt = x1 := h1 1 (by omega)
  have e2 : (zgb O 21 (3 * p + 2)).toInt = x2 := h1 2 (by omega)
  have e3 : (zgb O 22 p).toInt = x3 := h2
  unfold zVp
  rw [e0, e1, e2, e3]
theorem zRy_eq {O : zSt} {p : Nat} {X : zV} (h : zRy O p X) : zVr O p = zdir X := by
  obtain ⟨x0, x1, x2, x3⟩ := X
  obtain ⟨h1, -⟩ := h
  have e0 : (zgb O 23 (3 * p)).toInt = x0 := h1 0 (by omega)
  have e1 : (zgb O 23 (3 * p + 1)).toInt = x1 := h1 1 (by omega)
  have e2 : (zgb O 23 (3 * p + 2)).toInt = x2 := h1 2 (by omega)
  unfold zVr zdir
  rw [e0, e1, e2]
theorem ztr_zero (u v w : zV) : zev u (zXb (ztr u v w)) = 0 ∧ zev v (zXb (ztr u v w)) = 0 ∧ zev w (zXb (ztr u v w)) = 0 := by
  refine ⟨?_, ?_, ?_⟩
  · rw [zXb_ev]
    exact zc_own (t := ztr u v w) (j := 0) (i := 3) (by omega) (by omega)
  · rw [zXb_ev]
    exact zc_own (t := ztr u v w) (j := 1) (i := 3) (by omega) (by omega)
  · rw [zXb_ev]
    exact zc_own (t := ztr u v w) (j := 2) (i := 3) (by omega) (by omega)
theorem zsign3 {a b c u v w : zV} (ha : a = u ∨ a = zneg u) (hb : b = v ∨ b = zneg v) (hc : c = w ∨ c = zneg w) (h : zd3 a b c ≠ 0) : zd3 u v w ≠ 0 := by
  intro e
  apply h
  rcases ha with rfl | rfl <;> rcases hb with rfl | rfl <;> rcases hc with rfl | rfl <;> first | exact e | (simp only [zd3_n1, zd3_n2, zd3_n3, e]; rfl)
theorem zsign_ev {a u : zV} (ha : a = u ∨ a = zneg u) {X : zV} (h : zev u X = 0) : zev a X = 0 := by
  rcases ha with rfl | rfl
  · exact h
  · rw [zev_zneg, h]; rfl
section ZFND
variable {n m q : Nat} {P O O2 : zSt} {y2 y3 x1 x2 : Int32}
theorem zpts_feas (hP : zPw n m q P) (h : zRl n m q P O) (hs : zSm m P O y2 y3 x1 x2) {np : Nat} (hp : zPts (zPLs O n m x1 x2 false) O2 np) : ∀ p, p < np → zfeas (zSo (zGa P y2 y3 n m)) (zGa P y2 y3 n m).length (zVp O2 p) ∧ 0 < (zVp O2 p).2.2.2 ∧ (∀ i, i < 3 → n ≤ i → zco (zVp O2 p) i = 0) ∧ zfit (zPLs O n m x1 x2 false) (zPLs O n m x1 x2 false).length (zVp O2 p) := by
  intro p hpp
  obtain ⟨i, j, k, u, v, w, -, -, -, -, -, h6, h7, h8⟩ := hp.2.2.1 p hpp
  have e := zPo_eq h8
  have hw : 0 < (zXb (ztr u.1 v.1 w.1)).2.2.2 := zsc_pos (t := ztr u.1 v.1 w.1) h6
  rw [e]
  have h9 := (zfit_iff hP h hs _).mp h7
  exact ⟨⟨Int.le_of_lt hw, h9.1⟩, hw, h9.2, h7⟩
theorem zpts_b (hP : zPw n m q P) (h : zRl n m q P O) {np : Nat} (hp : zPts (zPLs O n m x1 x2 false) O2 np) : zbP O2 np := by
  intro p hpp
  obtain ⟨i, j, k, u, v, w, -, -, hu, hv, hw, h6, -, h8⟩ := hp.2.2.1 p hpp
  have hb := zPLs_b (n := n) (m := m) x1 x2 false (zRl_ow hP h)
  have hX := zXb_b4 (t := ztr u.1 v.1 w.1) (hb i u hu).1 (hb j v hv).1 (hb k w hw).1
  have hs := zsc_b (t := ztr u.1 v.1 w.1) (hb i u hu).1 (hb j v hv).1 (hb k w hw).1
  refine ⟨fun c hc => by rw [h8.1 c hc]; exact hX.1 c hc, ?_, ?_⟩
  · rw [h8.2.1]; exact zsc_pos (t := ztr u.1 v.1 w.1) h6
  · rw [h8.2.1]; exact hs
theorem zpoint_in (hP : zPw n m q P) (h : zRl n m q P O) (hs : zSm m P O y2 y3 x1 x2) {np : Nat} (hp : zPts (zPLs O n m x1 x2 false) O2 np) {o : Nat → Nat} (hok : zok (zSo (zGa P y2 y3 n m)) (zGa P y2 y3 n m).length o) (hx : zNx n o) (hf : zFe (zSo (zGa P y2 y3 n m)) (zGa P y2 y3 n m).length o) : ∃ p, p < np ∧ 0 < (zVp O2 p).2.2.2 ∧ ∀ F, zsc (zT (zSo (zGa P y2 y3 n m)) o) * zev F (zVp O2 p) = zev F (zXb (zT (zSo (zGa P y2 y3 n m)) o)) * (zVp O2 p).2.2.2 := by
  have hsp := zside_plane hP h hs
  obtain ⟨k0, v0, q0, s0⟩ := hsp (o 0) (hok.2 0 (by omega))
  obtain ⟨k1, v1, q1, s1⟩ := hsp (o 1) (hok.2 1 (by omega))
  obtain ⟨k2, v2, q2, s2⟩ := hsp (o 2) (hok.2 2 (by omega))
  have hd : zd3 v0.1 v1.1 v2.1 ≠ 0 := zsign3 s0 s1 s2 hok.1
  have tri : zTri (zPLs O n m x1 x2 false) (zT (zSo (zGa P y2 y3 n m)) o) k0 k1 k2 := by
    refine ⟨v0, v1, v2, q0, q1, q2, hd, fun X a b c i hi => ?_⟩
    rcases zlt3 hi with rfl | rfl | rfl
    · exact zsign_ev s0 a
    · exact zsign_ev s1 b
    · exact zsign_ev s2 c
  obtain ⟨a, b, c, hab, hbc, u, v, w, hu, hv, hw, hd2, hz⟩ := zTri_sort tri
  have zz := ztr_zero u.1 v.1 w.1
  have z3 := hz _ zz.1 zz.2.1 zz.2.2
  have hwp : 0 < (zXb (ztr u.1 v.1 w.1)).2.2.2 := zsc_pos (t := ztr u.1 v.1 w.1) hd2
  have hsc := zsc_pos hok.1
  have prop : ∀ F, zsc (zT (zSo (zGa P y2 y3 n m)) o) * zev F (zXb (ztr u.1 v.1 w.1)) = zev F (zXb (zT (zSo (zGa P y2 y3 n m)) o)) * (zXb (ztr u.1 v.1 w.1)).2.2.2 := by
    intro F
    rw [zc_cramer, z3 0 (by omega), z3 1 (by omega), z3 2 (by omega), zXb_ev]
    omega
  have fitX : zfit (zPLs O n m x1 x2 false) (zPLs O n m x1 x2 false).length (zXb (zT (zSo (zGa P y2 y3 n m)) o)) := by
    refine (zfit_iff hP h hs _).mpr ⟨fun s hs => by rw [zXb_ev]; exact hf s hs, fun i hi hni => ?_⟩
    rw [zXb_co hP o hi]
    have e1 : zc (zT (zSo (zGa P y2 y3 n m)) o) (zSo (zGa P y2 y3 n m) i) 3 = 0 := zou_val ⟨i, hi, hx i hi hni⟩ (by omega) (fun j hj _ => by omega)
    rw [e1, (hP.2.2.2.2.2.2.2.2.1 i hi hni).1]
    simp
  obtain ⟨p, hpp, hpo⟩ := hp.2.2.2 a b c u v w hab hbc hu hv hw hd2 (fun k hk x hx => zhold_scale hsc hwp (prop x.1) (fitX k hk x hx))
  have e := zPo_eq hpo
  exact ⟨p, hpp, by rw [e]; exact hwp, by rw [e]; exact prop⟩
theorem zrays_feas (hP : zPw n m q P) (h : zRl n m q P O) (hs : zSm m P O y2 y3 x1 x2) {nr : Nat} (hr : zRays (zPLs O n m x1 (-1) true) O2 nr) : ∀ p, p < nr → zfeas (zSo (zGa P y2 y3 n m)) (zGa P y2 y3 n m).length (zVr O2 p) := by
  intro p hpp
  obtain ⟨i, j, u, v, -, -, -, -, h7, h8⟩ := hr.2.2.1 p hpp
  rw [zRy_eq h8]
  have h9 := (zfit_iff hP h hs _).mp ((zfit_ray O n m x1 x2 _).mp h7)
  exact ⟨Int.le_refl 0, h9.1⟩
theorem zrays_b (hP : zPw n m q P) (h : zRl n m q P O) {nr : Nat} (hr : zRays (zPLs O n m x1 (-1) true) O2 nr) : zbR O2 nr := by
  intro p hpp
  obtain ⟨i, j, u, v, -, hu, hv, -, -, h8⟩ := hr.2.2.1 p hpp
  have hb := zPLs_b (n := n) (m := m) x1 (-1) true (zRl_ow hP h)
  have hX := zXb_b4 (t := ztr u.1 v.1 zOne) (hb i u hu).1 (hb j v hv).1 zOne_b
  exact fun c hc => by rw [h8.1 c hc]; exact hX.1 c hc
def zTr2 (L : List (zV × Nat)) (t : Nat → zV) (b i j : Nat) : Prop := ∃ u v : zV × Nat, L[i]? = some u ∧ L[j]? = some v ∧ zd3 u.1 v.1 zOne ≠ 0 ∧ ∀ X, zev u.1 X = 0 → zev v.1 X = 0 → ∀ c, c < 3 → c ≠ b → zev (t c) (zdir X) = 0
theorem zTr2_sort {L : List (zV × Nat)} {t : Nat → zV} {b i j : Nat} (h : zTr2 L t b i j) : ∃ a c, a < c ∧ zTr2 L t b a c := by
  obtain ⟨u, v, h1, h2, h3, h4⟩ := h
  rcases Nat.lt_trichotomy i j with c | c | c
  · exact ⟨i, j, c, u, v, h1, h2, h3, h4⟩
  · subst c
    rw [h1] at h2
    cases h2
    have := zd3_12 u.1 u.1 zOne
    omega
  · exact ⟨j, i, c, v, u, h2, h1, by rw [zd3_12]; omega, fun X a b => h4 X b a⟩
theorem zray_in (hP : zPw n m q P) (h : zRl n m q P O) (hs : zSm m P O y2 y3 x1 x2) {nr : Nat} (hr : zRays (zPLs O n m x1 (-1) true) O2 nr) {o : Nat → Nat} (hok : zok (zSo (zGa P y2 y3 n m)) (zGa P y2 y3 n m).length o) (hx : zNx n o) {b : Nat} (hb : b < 3) (hbn : b < n ∨ o b ≠ b) (hd : ∀ s, s < (zGa P y2 y3 n m).length → 0 ≤ zc (zT (zSo (zGa P y2 y3 n m)) o) (zSo (zGa P y2 y3 n m) s) b) {F : zV} (hF : zc (zT (zSo (zGa P y2 y3 n m)) o) F b ≠ 0) : ∃ p, p < nr ∧ ∃ lam, 0 < lam ∧ ∀ F, zsc (zT (zSo (zGa P y2 y3 n m)) o) * zev F (zVr O2 p) = lam * zev F (zXd (zT (zSo (zGa P y2 y3 n m)) o) b) := by
  have hl := zGa_len hP y2 y3
  have hsc := zsc_pos hok.1
  have t0 : zSo (zGa P y2 y3 n m) 0 = zEp 0 (zga P 0 0).toInt := zSo_some (v := (zEp 0 (zga P 0 0).toInt, false)) (by unfold zGa; rw [List.append_assoc]; rfl)
  have t1 : zSo (zGa P y2 y3 n m) 1 = zEp 1 (zga P 0 1).toInt := zSo_some (v := (zEp 1 (zga P 0 1).toInt, false)) (by unfold zGa; rw [List.append_assoc]; rfl)
  have t2 : zSo (zGa P y2 y3 n m) 2 = zEp 2 (zga P 0 2).toInt := zSo_some (v := (zEp 2 (zga P 0 2).toInt, false)) (by unfold zGa; rw [List.append_assoc]; rfl)
  -- the direction
  have dco : ∀ i, i < 3 → 0 ≤ zc (zT (zSo (zGa P y2 y3 n m)) o) (zE i) b := by
    intro i hi
    have h1 := hd i (by omega)
    rw [zc_sum _ _ hb] at h1
    rcases zlt3 hi with rfl | rfl | rfl
    · rw [t0] at h1; simp [zEp] at h1; exact h1
    · rw [t1] at h1; simp [zEp] at h1; exact h1
    · rw [t2] at h1; simp [zEp] at h1; exact h1
  have e1 := zc_sum (zT (zSo (zGa P y2 y3 n m)) o) zOne hb
  have e2 := zc_sum (zT (zSo (zGa P y2 y3 n m)) o) F hb
  have one : zc (zT (zSo (zGa P y2 y3 n m)) o) zOne b = zc (zT (zSo (zGa P y2 y3 n m)) o) (zE 0) b + zc (zT (zSo (zGa P y2 y3 n m)) o) (zE 1) b + zc (zT (zSo (zGa P y2 y3 n m)) o) (zE 2) b := by
    rw [e1]
    simp [zOne]
  have sum : 0 < zc (zT (zSo (zGa P y2 y3 n m)) o) zOne b := by
    have d0 := dco 0 (by omega)
    have d1 := dco 1 (by omega)
    have d2 := dco 2 (by omega)
    by_cases c : zc (zT (zSo (zGa P y2 y3 n m)) o) zOne b = 0
    · exfalso
      have z0 : zc (zT (zSo (zGa P y2 y3 n m)) o) (zE 0) b = 0 := by omega
      have z1 : zc (zT (zSo (zGa P y2 y3 n m)) o) (zE 1) b = 0 := by omega
      have z2 : zc (zT (zSo (zGa P y2 y3 n m)) o) (zE 2) b = 0 := by omega
      rw [z0, z1, z2] at e2
      simp at e2
      exact hF e2
    · omega
  -- the two other sides
  have pick : ∃ c d, c < 3 ∧ d < 3 ∧ c ≠ b ∧ d ≠ b ∧ (∀ i, i < 3 → i ≠ b → i = c ∨ i = d) ∧ zd3 (zSo (zGa P y2 y3 n m) (o c)) (zSo (zGa P y2 y3 n m) (o d)) zOne ≠ 0 := by
    have nz : zM (zT (zSo (zGa P y2 y3 n m)) o) zOne b ≠ 0 := by
      intro e
      unfold zc at sum
      rw [e] at sum
      simp at sum
    rcases zlt3 hb with rfl | rfl | rfl
    · refine ⟨1, 2, by omega, by omega, by omega, by omega, fun i hi hne => by omega, fun e => nz ?_⟩
      show zd3 zOne (zSo (zGa P y2 y3 n m) (o 1)) (zSo (zGa P y2 y3 n m) (o 2)) = 0
      rw [zd3_12, zd3_23, e]
      rfl
    · refine ⟨0, 2, by omega, by omega, by omega, by omega, fun i hi hne => by omega, fun e => nz ?_⟩
      show zd3 (zSo (zGa P y2 y3 n m) (o 0)) zOne (zSo (zGa P y2 y3 n m) (o 2)) = 0
      rw [zd3_23, e]
      rfl
    · exact ⟨0, 1, by omega, by omega, by omega, by omega, fun i hi hne => by omega, nz⟩
  obtain ⟨c, d, hc, hd3, hcb, hdb, hcd, hdet⟩ := pick
  have hsp := zside_plane hP h hs
  obtain ⟨k0, v0, q0, s0⟩ := hsp (o c) (hok.2 c hc)
  obtain ⟨k1, v1, q1, s1⟩ := hsp (o d) (hok.2 d hd3)
  have m0 : (zPLs O n m x1 (-1) true)[k0]? = some (zw0 v0.1, v0.2) := by rw [zPLs_map O n m x1 x2, List.getElem?_map, q0]; rfl
  have m1 : (zPLs O n m x1 (-1) true)[k1]? = some (zw0 v1.1, v1.2) := by rw [zPLs_map O n m x1 x2, List.getElem?_map, q1]; rfl
  have tri : zTr2 (zPLs O n m x1 (-1) true) (zT (zSo (zGa P y2 y3 n m)) o) b k0 k1 := by
    refine ⟨_, _, m0, m1, ?_, fun X a e i hi hne => ?_⟩
    · show zd3 v0.1 v1.1 zOne ≠ 0
      exact zsign3 s0 s1 (Or.inl rfl) hdet
    · have a2 : zev v0.1 (zdir X) = 0 := by rw [← zev_w0]; exact a
      have a3 : zev v1.1 (zdir X) = 0 := by rw [← zev_w0]; exact e
      rcases hcd i hi hne with rfl | rfl
      · exact zsign_ev s0 a2
      · exact zsign_ev s1 a3
  obtain ⟨a, e, hae, u, v, hu, hv, hd2, hz⟩ := zTr2_sort tri
  have zz := ztr_zero u.1 v.1 zOne
  have z3 := hz _ zz.1 zz.2.1
  have hwp : 0 < (zXb (ztr u.1 v.1 zOne)).2.2.2 := zsc_pos (t := ztr u.1 v.1 zOne) hd2
  have prop : ∀ F, zsc (zT (zSo (zGa P y2 y3 n m)) o) * zev F (zdir (zXb (ztr u.1 v.1 zOne))) = zev (zSo (zGa P y2 y3 n m) (o b)) (zdir (zXb (ztr u.1 v.1 zOne))) * zev F (zXd (zT (zSo (zGa P y2 y3 n m)) o) b) := by
    intro F
    have hcr := zc_cramer (zT (zSo (zGa P y2 y3 n m)) o) F (zdir (zXb (ztr u.1 v.1 zOne)))
    have hw : (zdir (zXb (ztr u.1 v.1 zOne))).2.2.2 = 0 := rfl
    rw [zXd_ev _ _ hb, hcr, hw]
    have zc3 : ∀ i, i < 3 → i ≠ b → zev (zT (zSo (zGa P y2 y3 n m)) o i) (zdir (zXb (ztr u.1 v.1 zOne))) = 0 := fun i hi hne => z3 i hi hne
    have go : ∀ x : Int, x = zc (zT (zSo (zGa P y2 y3 n m)) o) F b * zev (zT (zSo (zGa P y2 y3 n m)) o b) (zdir (zXb (ztr u.1 v.1 zOne))) → x = zev (zSo (zGa P y2 y3 n m) (o b)) (zdir (zXb (ztr u.1 v.1 zOne))) * zc (zT (zSo (zGa P y2 y3 n m)) o) F b := fun x hx => by rw [hx]; exact Int.mul_comm _ _
    apply go
    rcases zlt3 hb with rfl | rfl | rfl
    · rw [zc3 1 (by omega) (by omega), zc3 2 (by omega) (by omega)]
      simp
    · rw [zc3 0 (by omega) (by omega), zc3 2 (by omega) (by omega)]
      simp
    · rw [zc3 0 (by omega) (by omega), zc3 1 (by omega) (by omega)]
      simp
  have lam : 0 < zev (zSo (zGa P y2 y3 n m) (o b)) (zdir (zXb (ztr u.1 v.1 zOne))) := by
    have p1 := prop zOne
    rw [zXd_ev _ _ hb] at p1
    have e3 : zev zOne (zdir (zXb (ztr u.1 v.1 zOne))) = (zXb (ztr u.1 v.1 zOne)).2.2.2 := by
      have e4 := zz.2.2
      unfold zev at e4 ⊢
      unfold zdir
      simp [zOne] at e4 ⊢
      omega
    rw [e3] at p1
    have p2 := Int.mul_pos hsc hwp
    rcases Int.lt_trichotomy 0 (zev (zSo (zGa P y2 y3 n m) (o b)) (zdir (zXb (ztr u.1 v.1 zOne)))) with c1 | c1 | c1
    · exact c1
    · rw [← c1] at p1
      simp at p1
      omega
    · have := zmul_mp c1 sum
      omega
  have fitD : zfit (zPLs O n m x1 x2 false) (zPLs O n m x1 x2 false).length (zXd (zT (zSo (zGa P y2 y3 n m)) o) b) := by
    refine (zfit_iff hP h hs _).mpr ⟨fun s hs => by rw [zXd_ev _ _ hb]; exact hd s hs, fun i hi hni => ?_⟩
    have e5 : zco (zXd (zT (zSo (zGa P y2 y3 n m)) o) b) i = zc (zT (zSo (zGa P y2 y3 n m)) o) (zE i) b := by
      rcases zlt3 hi with rfl | rfl | rfl <;> rfl
    rw [e5]
    have h1 : zc (zT (zSo (zGa P y2 y3 n m)) o) (zSo (zGa P y2 y3 n m) i) b = 0 := by
      refine zou_val ⟨i, hi, hx i hi hni⟩ (by omega) (fun j hj e => ?_)
      have : j = i := zok_inj hok hj hi (by rw [e, hx i hi hni])
      rw [this]
      rintro rfl
      rcases hbn with hbn | hbn
      · omega
      · exact hbn (hx b hi hni)
    rw [zc_sum _ _ hb] at h1
    rcases zlt3 hi with rfl | rfl | rfl
    · rw [t0] at h1; simp [zEp] at h1; exact h1
    · rw [t1] at h1; simp [zEp] at h1; exact h1
    · rw [t2] at h1; simp [zEp] at h1; exact h1
  obtain ⟨p, hpp, hpo⟩ := hr.2.2.2 a e u v hae hu hv hd2 ((zfit_ray O n m x1 x2 _).mpr (fun k hk x hx => zhold_scale (a := zev x.1 (zXd (zT (zSo (zGa P y2 y3 n m)) o) b)) hsc lam (by rw [prop x.1, Int.mul_comm]) (fitD k hk x hx)))
  have e := zRy_eq hpo
  exact ⟨p, hpp, _, lam, by rw [e]; exact prop⟩
end ZFND

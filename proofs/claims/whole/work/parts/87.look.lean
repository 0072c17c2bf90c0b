/-! 87: the corners are looked at. -/
theorem zI_succ (i : Nat) : zI i + 1 = zI (i + 1) := by rw [zn1, zI_add]
def zo3 (a b c : Nat) : Nat → Nat
  | 0 => a
  | 1 => b
  | _ => c
theorem zo3_tr (S : Nat → zV) (a b c : Nat) : ztr (S a) (S b) (S c) = zT S (zo3 a b c) := by
  funext j
  match j with
  | 0 => rfl
  | 1 => rfl
  | j + 2 => rfl
theorem ztr_own {u v w : zV} : zev u (zXb (ztr u v w)) = 0 ∧ zev v (zXb (ztr u v w)) = 0 ∧ zev w (zXb (ztr u v w)) = 0 := by
  rw [zXb_ev, zXb_ev, zXb_ev]
  refine ⟨?_, ?_, ?_⟩
  · have e := zc_own (t := ztr u v w) (j := 0) (i := 3) (by omega) (by omega); rw [if_neg (by omega)] at e; exact e
  · have e := zc_own (t := ztr u v w) (j := 1) (i := 3) (by omega) (by omega); rw [if_neg (by omega)] at e; exact e
  · have e := zc_own (t := ztr u v w) (j := 2) (i := 3) (by omega) (by omega); rw [if_neg (by omega)] at e; exact e
theorem zcorner_bd {s : zSt} {S : Nat → zV} {cnt i j k : Nat} (hS : zSd s S cnt) (hi : i < cnt) (hj : j < cnt) (hk : k < cnt) (hd : zd3 (S i) (S j) (S k) ≠ 0) : zBd (zXb (ztr (S i) (S j) (S k))) := by
  obtain ⟨b1, b2⟩ := zXb_b4 (t := ztr (S i) (S j) (S k)) (hS.2.2 i hi).1 (hS.2.2 j hj).1 (hS.2.2 k hk).1
  have hp : 0 < (zXb (ztr (S i) (S j) (S k))).2.2.2 := zsc_pos (t := ztr (S i) (S j) (S k)) hd
  exact ⟨b1, hp, by have := zab_hi b2; omega⟩
theorem zd3_col {u v w : zV} {i : Nat} (hi : i < 3) (h1 : zco u i = 0) (h2 : zco v i = 0) (h3 : zco w i = 0) : zd3 u v w = 0 := by
  obtain ⟨u0, u1, u2, u3⟩ := u
  obtain ⟨v0, v1, v2, v3⟩ := v
  obtain ⟨w0, w1, w2, w3⟩ := w
  rcases zlt3 hi with rfl | rfl | rfl <;> simp only [zco] at h1 h2 h3 <;> subst h1 h2 h3 <;> simp [zd3]
theorem zcorner_z {n m q i j k : Nat} {P : zSt} (hP : zPw n m q P) (hd : zd3 (zSo (zGa P 0 (-1) n m) i) (zSo (zGa P 0 (-1) n m) j) (zSo (zGa P 0 (-1) n m) k) ≠ 0) : ∀ x, x < 3 → n ≤ x → zco (zXb (ztr (zSo (zGa P 0 (-1) n m) i) (zSo (zGa P 0 (-1) n m) j) (zSo (zGa P 0 (-1) n m) k))) x = 0 := by
  intro x hx hn
  rw [zo3_tr, zXb_co hP (zo3 i j k) hx, (hP.2.2.2.2.2.2.2.2.1 x hx hn).1]
  have hns := zGa_ns hP 0 (-1)
  have hou : zou (zo3 i j k) x := by
    by_cases c0 : i = x
    · exact ⟨0, by omega, c0⟩
    · by_cases c1 : j = x
      · exact ⟨1, by omega, c1⟩
      · by_cases c2 : k = x
        · exact ⟨2, by omega, c2⟩
        · exact absurd (zd3_col hx (hns i x hx hn c0) (hns j x hx hn c1) (hns k x hx hn c2)) hd
  have e : zc (zT (zSo (zGa P 0 (-1) n m)) (zo3 i j k)) (zSo (zGa P 0 (-1) n m) x) 3 = 0 := zou_val hou (by omega) (fun j hj _ => by omega)
  rw [e]
  simp
/-- three sides whose corner is the point of the basis o -/
def zHit (S : Nat → zV) (cnt : Nat) (s : zSt) (o : Nat → Nat) (i j k : Nat) : Prop :=
  (zga s 2 i = 0 ∧ zga s 2 j = 0 ∧ zga s 2 k = 0) ∧ (i < cnt ∧ j < cnt ∧ k < cnt) ∧ zd3 (S i) (S j) (S k) ≠ 0 ∧ ∀ Y, zev (S i) Y = 0 → zev (S j) Y = 0 → zev (S k) Y = 0 → ∀ c, c < 3 → zev (S (o c)) Y = 0
theorem zprop {S : Nat → zV} {o : Nat → Nat} {Y : zV} (h : ∀ c, c < 3 → zev (S (o c)) Y = 0) (F : zV) : zev F Y * (zXb (zT S o)).2.2.2 = zev F (zXb (zT S o)) * Y.2.2.2 := by
  have e := zc_cramer (zT S o) F Y
  have h0 : zev (zT S o 0) Y = 0 := h 0 (by omega)
  have h1 : zev (zT S o 1) Y = 0 := h 1 (by omega)
  have h2 : zev (zT S o 2) Y = 0 := h 2 (by omega)
  rw [h0, h1, h2, Int.mul_zero, Int.mul_zero, Int.mul_zero] at e
  rw [zXb_ev]
  show zev F Y * zsc (zT S o) = _
  rw [Int.mul_comm, e]
  omega
def zCi (P : zSt) (S : Nat → zV) (cnt q : Nat) (X : zV) (C B : zSt) (e : Prop) : Prop :=
  (zgi C 4 = 0 ∨ zgi C 4 = 1) ∧ (zgi C 4 = 1 → ∃ Y, zQp B Y ∧ zBd Y ∧ zfeas S cnt Y ∧ (e → zeqa P q Y X)) ∧ (e → zgi C 4 = 1)
theorem zCi_mono {P : zSt} {S : Nat → zV} {cnt q : Nat} {X : zV} {C B : zSt} {e e2 : Prop} (h : zCi P S cnt q X C B e) (g : e2 → e) : zCi P S cnt q X C B e2 := by
  refine ⟨h.1, fun k => ?_, fun k => h.2.2 (g k)⟩
  obtain ⟨Y, h1, h2, h3, h4⟩ := h.2.1 k
  exact ⟨Y, h1, h2, h3, fun k => h4 (g k)⟩
section ZCORN
variable {n m q : Nat} {P s : zSt} {o : Nat → Nat}
theorem zlookAt (hP : zPw n m q P) (hS : zSd s (zSo (zGa P 0 (-1) n m)) (zGa P 0 (-1) n m).length) (hX : 0 < (zXb (zT (zSo (zGa P 0 (-1) n m)) o)).2.2.2) (hXf : zfeas (zSo (zGa P 0 (-1) n m)) (zGa P 0 (-1) n m).length (zXb (zT (zSo (zGa P 0 (-1) n m)) o))) (hopt : ∀ Y, zfeas (zSo (zGa P 0 (-1) n m)) (zGa P 0 (-1) n m).length Y → ¬ zcmpb P q Y (zXb (zT (zSo (zGa P 0 (-1) n m)) o))) {i j k : Nat} (hi : i < (zGa P 0 (-1) n m).length) (hj : j < (zGa P 0 (-1) n m).length) (hk : k < (zGa P 0 (-1) n m).length) {C B K : zSt} {e : Prop} (h : zCi P (zSo (zGa P 0 (-1) n m)) (zGa P 0 (-1) n m).length q (zXb (zT (zSo (zGa P 0 (-1) n m)) o)) C B e) : ∃ C2 B2 K2, fX0_lookAt C P s B K (zI i) (zI j) (zI k) = some (C2, B2, K2) ∧ zCi P (zSo (zGa P 0 (-1) n m)) (zGa P 0 (-1) n m).length q (zXb (zT (zSo (zGa P 0 (-1) n m)) o)) C2 B2 (e ∨ zHit (zSo (zGa P 0 (-1) n m)) (zGa P 0 (-1) n m).length s o i j k) := by
  obtain ⟨y, K2, f1, f2⟩ := eX0_meet (C := C) (P := P) (K := K) hS hi hj hk
  have dead : (¬ zHit (zSo (zGa P 0 (-1) n m)) (zGa P 0 (-1) n m).length s o i j k) → zCi P (zSo (zGa P 0 (-1) n m)) (zGa P 0 (-1) n m).length q (zXb (zT (zSo (zGa P 0 (-1) n m)) o)) C B (e ∨ zHit (zSo (zGa P 0 (-1) n m)) (zGa P 0 (-1) n m).length s o i j k) := fun hn => zCi_mono h (fun k => k.resolve_right hn)
  unfold fX0_lookAt fX0_lookAt_67 fX0_lookAt_51
  rw [f1, zbq]
  rcases f2 with ⟨y0, d0⟩ | ⟨y1, d1, hK, -⟩
  · rw [if_pos y0]
    exact ⟨C, B, K2, rfl, dead (fun k => k.2.2.1 d0)⟩
  · have hb := zcorner_bd hS hi hj hk d1
    have hz := zcorner_z hP d1
    have hfe := zbr_feas hP (Int.le_of_lt hb.2.1) hz
    have own := ztr_own (u := zSo (zGa P 0 (-1) n m) i) (v := zSo (zGa P 0 (-1) n m) j) (w := zSo (zGa P 0 (-1) n m) k)
    generalize zXb (ztr (zSo (zGa P 0 (-1) n m) i) (zSo (zGa P 0 (-1) n m) j) (zSo (zGa P 0 (-1) n m) k)) = Z at *
    have hpr : zHit (zSo (zGa P 0 (-1) n m)) (zGa P 0 (-1) n m).length s o i j k → ∀ F, zev F Z * (zXb (zT (zSo (zGa P 0 (-1) n m)) o)).2.2.2 = zev F (zXb (zT (zSo (zGa P 0 (-1) n m)) o)) * Z.2.2.2 := fun hh => zprop (hh.2.2.2 Z own.1 own.2.1 own.2.2)
    have hZf : zHit (zSo (zGa P 0 (-1) n m)) (zGa P 0 (-1) n m).length s o i j k → zfeas (zSo (zGa P 0 (-1) n m)) (zGa P 0 (-1) n m).length Z := fun hh => by
      refine ⟨Int.le_of_lt hb.2.1, fun t ht => ?_⟩
      have e1 := hpr hh (zSo (zGa P 0 (-1) n m) t)
      have e2 : 0 ≤ zev (zSo (zGa P 0 (-1) n m) t) (zXb (zT (zSo (zGa P 0 (-1) n m)) o)) * Z.2.2.2 := Int.mul_nonneg (hXf.2 t ht) (Int.le_of_lt hb.2.1)
      rw [← e1] at e2
      exact Int.nonneg_of_mul_nonneg_left e2 hX
    obtain ⟨v, g1, g2⟩ := eX5_breakerOf hP hK hb
    rw [if_neg (show ¬ y = 0 by rw [y1]; decide), g1, zbq]
    by_cases c : v = 100
    · rw [if_pos c]
      have hZ : zfeas (zSo (zGa P 0 (-1) n m)) (zGa P 0 (-1) n m).length Z := hfe.mp (by rw [c] at g2; exact g2)
      have take : (e → zeqa P q Z (zXb (zT (zSo (zGa P 0 (-1) n m)) o))) → ∃ C2 B2 K3, ((fX4_copy B K2).bind (fun o59 => (zlet (zsi C 4 (1 : Int32)) (fun sO64 => some (sO64, o59, K2))))) = some (C2, B2, K3) ∧ zCi P (zSo (zGa P 0 (-1) n m)) (zGa P 0 (-1) n m).length q (zXb (zT (zSo (zGa P 0 (-1) n m)) o)) C2 B2 (e ∨ zHit (zSo (zGa P 0 (-1) n m)) (zGa P 0 (-1) n m).length s o i j k) := by
        intro he
        obtain ⟨B2, p1, p2, -⟩ := eX4_copy (A := B) hK
        rw [p1, zbq, zlq]
        refine ⟨_, B2, K2, rfl, Or.inr gi_si, fun _ => ⟨Z, p2, hb, hZ, fun hh => ?_⟩, fun _ => gi_si⟩
        rcases hh with hh | hh
        · exact he hh
        · exact fun b _ => hpr hh (zac P b)
      by_cases c4 : zgi C 4 = 0
      · rw [if_pos c4]
        exact take (fun he => absurd (h.2.2 he) (by rw [c4]; decide))
      · rw [if_neg c4]
        have c41 : zgi C 4 = 1 := h.1.resolve_left c4
        obtain ⟨Y, y1, y2, y3, y4⟩ := h.2.1 c41
        obtain ⟨r, r1, r2⟩ := eX5_compareByAims hP hK y1 hb y2
        rw [r1, zbq]
        by_cases cr : r ≤ 0
        · rw [if_pos cr]
          have nb : ¬ zcmpb P q Z Y := fun hh => r2.mpr hh cr
          refine ⟨C, B, K2, rfl, h.1, fun _ => ⟨Y, y1, y2, y3, fun hh => ?_⟩, fun _ => c41⟩
          rcases hh with hh | hh
          · exact y4 hh
          · have zx : zeqa P q Z (zXb (zT (zSo (zGa P 0 (-1) n m)) o)) := fun b _ => hpr hh (zac P b)
            have nb2 : ¬ zcmpb P q Y Z := fun k => hopt Y y3 (zcmp_eq hP hX hb.2.1 k zx)
            exact zeqa_trans hb.2.1 (zeqa_sym (zcmp_tot hP nb nb2)) zx
        · rw [if_neg cr]
          exact take (fun he => absurd (zcmp_eq hP hX y2.2.1 (r2.mp cr) (y4 he)) (hopt Z hZ))
    · rw [if_neg c]
      refine ⟨C, B, K2, rfl, dead (fun hh => c ?_)⟩
      exact zBr_one g2 (hfe.mpr (hZf hh))
theorem zalong_4 (hP : zPw n m q P) (hS : zSd s (zSo (zGa P 0 (-1) n m)) (zGa P 0 (-1) n m).length) (hX : 0 < (zXb (zT (zSo (zGa P 0 (-1) n m)) o)).2.2.2) (hXf : zfeas (zSo (zGa P 0 (-1) n m)) (zGa P 0 (-1) n m).length (zXb (zT (zSo (zGa P 0 (-1) n m)) o))) (hopt : ∀ Y, zfeas (zSo (zGa P 0 (-1) n m)) (zGa P 0 (-1) n m).length Y → ¬ zcmpb P q Y (zXb (zT (zSo (zGa P 0 (-1) n m)) o))) {i j : Nat} (hi : i < (zGa P 0 (-1) n m).length) (hj : j < (zGa P 0 (-1) n m).length) : ∀ (d k f : Nat) (C B K : zSt) (e : Prop), k + d = (zGa P 0 (-1) n m).length → d < f → zCi P (zSo (zGa P 0 (-1) n m)) (zGa P 0 (-1) n m).length q (zXb (zT (zSo (zGa P 0 (-1) n m)) o)) C B e → ∃ C2 B2 K2, fX0_lookAlong_4 P s f C B K (zI i) (zI j) (zI k) = some (C2, B2, K2) ∧ zCi P (zSo (zGa P 0 (-1) n m)) (zGa P 0 (-1) n m).length q (zXb (zT (zSo (zGa P 0 (-1) n m)) o)) C2 B2 (e ∨ ∃ r, k ≤ r ∧ zHit (zSo (zGa P 0 (-1) n m)) (zGa P 0 (-1) n m).length s o i j r)
  | 0, k, f + 1, C, B, K, e, hk, hf, h => by
    rw [fX0_lookAlong_4, hS.2.1, if_pos (by rw [show k = (zGa P 0 (-1) n m).length by omega]; exact Int32.le_refl _)]
    exact ⟨C, B, K, rfl, zCi_mono h (fun g => g.resolve_right (fun ⟨r, h1, h2⟩ => by have := h2.2.1.2.2; omega))⟩
  | d + 1, k, f + 1, C, B, K, e, hk, hf, h => by
    have h18 := hS.1
    obtain ⟨b, b1, b2⟩ := eX7_isMirror (s := s) (show k < 18 by omega)
    rw [fX0_lookAlong_4, hS.2.1, if_neg (by rw [zI_le (by omega) (by omega)]; omega), b1, zbq]
    by_cases c : b = 0
    · obtain ⟨C1, B1, K1, g1, g2⟩ := zlookAt hP hS hX hXf hopt hi hj (show k < (zGa P 0 (-1) n m).length by omega) (K := K) h
      rw [if_pos c, g1, zbq, fX0_lookAlong_33, zlq, zI_succ]
      obtain ⟨C2, B2, K2, r1, r2⟩ := zalong_4 hP hS hX hXf hopt hi hj d (k + 1) f C1 B1 K1 _ (by omega) (by omega) g2
      refine ⟨C2, B2, K2, r1, zCi_mono r2 (fun g => ?_)⟩
      rcases g with g | ⟨r, h1, h2⟩
      · exact Or.inl (Or.inl g)
      · by_cases cr : r = k
        · rw [cr] at h2; exact Or.inl (Or.inr h2)
        · exact Or.inr ⟨r, by omega, h2⟩
    · rw [if_neg c, fX0_lookAlong_33, zlq, zI_succ]
      obtain ⟨C2, B2, K2, r1, r2⟩ := zalong_4 hP hS hX hXf hopt hi hj d (k + 1) f C B K _ (by omega) (by omega) h
      refine ⟨C2, B2, K2, r1, zCi_mono r2 (fun g => ?_)⟩
      rcases g with g | ⟨r, h1, h2⟩
      · exact Or.inl g
      · by_cases cr : r = k
        · rw [cr] at h2; exact absurd (b2.mpr h2.1.2.2) c
        · exact Or.inr ⟨r, by omega, h2⟩
theorem zlook_22 (hP : zPw n m q P) (hS : zSd s (zSo (zGa P 0 (-1) n m)) (zGa P 0 (-1) n m).length) (hX : 0 < (zXb (zT (zSo (zGa P 0 (-1) n m)) o)).2.2.2) (hXf : zfeas (zSo (zGa P 0 (-1) n m)) (zGa P 0 (-1) n m).length (zXb (zT (zSo (zGa P 0 (-1) n m)) o))) (hopt : ∀ Y, zfeas (zSo (zGa P 0 (-1) n m)) (zGa P 0 (-1) n m).length Y → ¬ zcmpb P q Y (zXb (zT (zSo (zGa P 0 (-1) n m)) o))) {i : Nat} (hi : i < (zGa P 0 (-1) n m).length) (k7 : zSt → zSt → zSt → Int32 → Option (zSt × zSt × zSt)) : ∀ (d j f : Nat) (C B K : zSt) (e : Prop), j + d = (zGa P 0 (-1) n m).length → d < f → zCi P (zSo (zGa P 0 (-1) n m)) (zGa P 0 (-1) n m).length q (zXb (zT (zSo (zGa P 0 (-1) n m)) o)) C B e → ∃ C2 B2 K2, fX0_look_35 P s k7 f C B K (zI i) (zI j) = k7 C2 B2 K2 (zI (i + 1)) ∧ zCi P (zSo (zGa P 0 (-1) n m)) (zGa P 0 (-1) n m).length q (zXb (zT (zSo (zGa P 0 (-1) n m)) o)) C2 B2 (e ∨ ∃ r t, j ≤ r ∧ r < t ∧ zHit (zSo (zGa P 0 (-1) n m)) (zGa P 0 (-1) n m).length s o i r t)
  | 0, j, f + 1, C, B, K, e, hk, hf, h => by
    rw [fX0_look_35, hS.2.1, if_pos (by rw [show j = (zGa P 0 (-1) n m).length by omega]; exact Int32.le_refl _), zlq, zI_succ]
    exact ⟨C, B, K, rfl, zCi_mono h (fun g => g.resolve_right (fun ⟨r, t, h1, _, h2⟩ => by have := h2.2.1.2.1; omega))⟩
  | d + 1, j, f + 1, C, B, K, e, hk, hf, h => by
    have h18 := hS.1
    obtain ⟨a, a1, a2⟩ := eX7_isMirror (s := s) (show i < 18 by omega)
    obtain ⟨b, b1, b2⟩ := eX7_isMirror (s := s) (show j < 18 by omega)
    have next : ∀ C1 B1 K1 e1, zCi P (zSo (zGa P 0 (-1) n m)) (zGa P 0 (-1) n m).length q (zXb (zT (zSo (zGa P 0 (-1) n m)) o)) C1 B1 e1 → ((e ∨ ∃ t, j < t ∧ zHit (zSo (zGa P 0 (-1) n m)) (zGa P 0 (-1) n m).length s o i j t) → e1) → ∃ C2 B2 K2, fX0_look_74 P s k7 (fX0_look_35 P s k7 f) C1 B1 K1 (zI i) (zI j) = k7 C2 B2 K2 (zI (i + 1)) ∧ zCi P (zSo (zGa P 0 (-1) n m)) (zGa P 0 (-1) n m).length q (zXb (zT (zSo (zGa P 0 (-1) n m)) o)) C2 B2 (e ∨ ∃ r t, j ≤ r ∧ r < t ∧ zHit (zSo (zGa P 0 (-1) n m)) (zGa P 0 (-1) n m).length s o i r t) := by
      intro C1 B1 K1 e1 g he
      obtain ⟨C2, B2, K2, r1, r2⟩ := zlook_22 hP hS hX hXf hopt hi k7 d (j + 1) f C1 B1 K1 e1 (by omega) (by omega) g
      unfold fX0_look_74
      rw [zlq, zI_succ, r1]
      refine ⟨C2, B2, K2, rfl, zCi_mono r2 (fun g => ?_)⟩
      rcases g with g | ⟨r, t, h1, h2, h3⟩
      · exact Or.inl (he (Or.inl g))
      · by_cases cr : r = j
        · rw [cr] at h2 h3; exact Or.inl (he (Or.inr ⟨t, h2, h3⟩))
        · exact Or.inr ⟨r, t, by omega, h2, h3⟩
    rw [fX0_look_35, hS.2.1, if_neg (by rw [zI_le (by omega) (by omega)]; omega), a1, zbq]
    by_cases ca : a = 0
    · rw [if_pos ca, b1, zbq]
      by_cases cb : b = 0
      · obtain ⟨C1, B1, K1, g1, g2⟩ := zalong_4 hP hS hX hXf hopt hi (show j < (zGa P 0 (-1) n m).length by omega) ((zGa P 0 (-1) n m).length - (j + 1)) (j + 1) 6000 C B K e (by omega) (by omega) h
        rw [if_pos cb]
        unfold fX0_lookAlong
        rw [zlq, zI_succ, g1, zbq]
        refine next C1 B1 K1 _ g2 (fun g => ?_)
        rcases g with g | ⟨t, h1, h2⟩
        · exact Or.inl g
        · exact Or.inr ⟨t, h1, h2⟩
      · rw [if_neg cb]
        exact next C B K e h (fun g => g.resolve_right (fun ⟨t, _, h2⟩ => cb (b2.mpr h2.1.2.1)))
    · rw [if_neg ca]
      exact next C B K e h (fun g => g.resolve_right (fun ⟨t, _, h2⟩ => ca (a2.mpr h2.1.1)))
theorem zlook_7 (hP : zPw n m q P) (hS : zSd s (zSo (zGa P 0 (-1) n m)) (zGa P 0 (-1) n m).length) (hX : 0 < (zXb (zT (zSo (zGa P 0 (-1) n m)) o)).2.2.2) (hXf : zfeas (zSo (zGa P 0 (-1) n m)) (zGa P 0 (-1) n m).length (zXb (zT (zSo (zGa P 0 (-1) n m)) o))) (hopt : ∀ Y, zfeas (zSo (zGa P 0 (-1) n m)) (zGa P 0 (-1) n m).length Y → ¬ zcmpb P q Y (zXb (zT (zSo (zGa P 0 (-1) n m)) o))) : ∀ (d i f : Nat) (C B K : zSt) (e : Prop), i + d = (zGa P 0 (-1) n m).length → d < f → zCi P (zSo (zGa P 0 (-1) n m)) (zGa P 0 (-1) n m).length q (zXb (zT (zSo (zGa P 0 (-1) n m)) o)) C B e → ∃ C2 B2 K2, fX0_look_20 P s f C B K (zI i) = some (C2, B2, K2) ∧ zCi P (zSo (zGa P 0 (-1) n m)) (zGa P 0 (-1) n m).length q (zXb (zT (zSo (zGa P 0 (-1) n m)) o)) C2 B2 (e ∨ ∃ u r t, i ≤ u ∧ u < r ∧ r < t ∧ zHit (zSo (zGa P 0 (-1) n m)) (zGa P 0 (-1) n m).length s o u r t)
  | 0, i, f + 1, C, B, K, e, hk, hf, h => by
    rw [fX0_look_20, hS.2.1, if_pos (by rw [show i = (zGa P 0 (-1) n m).length by omega]; exact Int32.le_refl _)]
    exact ⟨C, B, K, rfl, zCi_mono h (fun g => g.resolve_right (fun ⟨u, r, t, h1, _, _, h2⟩ => by have := h2.2.1.1; omega))⟩
  | d + 1, i, f + 1, C, B, K, e, hk, hf, h => by
    have h18 := hS.1
    obtain ⟨C1, B1, K1, g1, g2⟩ := zlook_22 hP hS hX hXf hopt (show i < (zGa P 0 (-1) n m).length by omega) (fX0_look_20 P s f) ((zGa P 0 (-1) n m).length - (i + 1)) (i + 1) 6000 C B K e (by omega) (by omega) h
    rw [fX0_look_20, hS.2.1, if_neg (by rw [zI_le (by omega) (by omega)]; omega), zlq, zI_succ, g1]
    obtain ⟨C2, B2, K2, r1, r2⟩ := zlook_7 hP hS hX hXf hopt d (i + 1) f C1 B1 K1 _ (by omega) (by omega) g2
    refine ⟨C2, B2, K2, r1, zCi_mono r2 (fun g => ?_)⟩
    rcases g with g | ⟨u, r, t, h1, h2, h3, h4⟩
    · exact Or.inl (Or.inl g)
    · by_cases cu : u = i
      · rw [cu] at h2 h4; exact Or.inl (Or.inr ⟨r, t, h2, h3, h4⟩)
      · exact Or.inr ⟨u, r, t, by omega, h2, h3, h4⟩
end ZCORN

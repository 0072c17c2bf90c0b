/-! 62: findsFit, findAll: the faces on which the goals are best, one within the other. -/
/-- the points and rays at which the held sides are tight -/
def zFa (S : Nat → zV) (W : zSt) (o : Nat → Nat) (X : zV) : Prop := ∀ j, j < 3 → zga W 4 j ≠ 0 → zev (S (o j)) X = 0
/-- goal after goal, each held at its best: from the face A to the face B -/
def zPath (S : Nat → zV) (cnt : Nat) (G : Nat → zV) (B : zV → Prop) : List Nat → (zV → Prop) → Prop
  | [], A => ∀ X, B X → A X
  | g :: gs, A => ∃ A2 : zV → Prop, (∃ s v : Int, 0 < s ∧ ∀ X, zfeas S cnt X → A X → s * zev (G g) X ≤ v * X.2.2.2 ∧ (s * zev (G g) X = v * X.2.2.2 ↔ A2 X)) ∧ (∀ X, A2 X → A X) ∧ zPath S cnt G B gs A2
def zlst (a : Nat) : Nat → List Nat
  | 0 => []
  | d + 1 => a :: zlst (a + 1) d
theorem zface {S : Nat → zV} {cnt : Nat} {F : zV} {W W2 : zSt} {o0 o : Nat → Nat} (hok : zok S cnt o) (hq : ∀ j, j < 3 → zga W 4 j ≠ 0 → o j = o0 j) (hneg : ∀ j, j < 3 → zga W 4 j = 0 → zc (zT S o) F j ≤ 0) (hW : ∀ j, j < 3 → zga W2 4 j = if zc (zT S o) F j ≠ 0 then 1 else zga W 4 j) :
    (∀ X, zfeas S cnt X → zFa S W o0 X → zsc (zT S o) * zev F X ≤ zc (zT S o) F 3 * X.2.2.2 ∧ (zsc (zT S o) * zev F X = zc (zT S o) F 3 * X.2.2.2 ↔ zFa S W2 o X)) ∧ ∀ X, zFa S W2 o X → zFa S W o0 X := by
  refine ⟨fun X hX hA => ?_, fun X hX j hj hne => ?_⟩
  · have hcr := zc_cramer (zT S o) F X
    have term : ∀ j, j < 3 → zc (zT S o) F j * zev (S (o j)) X ≤ 0 := by
      intro j hj
      by_cases c : zga W 4 j = 0
      · exact zmul_np (hneg j hj c) (hX.2 _ (hok.2 j hj))
      · have := hA j hj c
        rw [← hq j hj c] at this
        rw [this, Int.mul_zero]
        exact Int.le_refl 0
    have t0 := term 0 (by omega)
    have t1 := term 1 (by omega)
    have t2 := term 2 (by omega)
    have u0 : zT S o 0 = S (o 0) := rfl
    have u1 : zT S o 1 = S (o 1) := rfl
    have u2 : zT S o 2 = S (o 2) := rfl
    rw [u0, u1, u2] at hcr
    refine ⟨by omega, ⟨fun heq j hj hne => ?_, fun hB => ?_⟩⟩
    · by_cases c : zc (zT S o) F j = 0
      · rw [hW j hj, if_neg (fun h => h c)] at hne
        have := hA j hj hne
        rw [← hq j hj hne] at this
        exact this
      · have z : zc (zT S o) F j * zev (S (o j)) X = 0 := by
          rcases zlt3 hj with rfl | rfl | rfl <;> omega
        rcases Int.mul_eq_zero.mp z with h | h
        · exact absurd h c
        · exact h
    · have z : ∀ j, j < 3 → zc (zT S o) F j * zev (S (o j)) X = 0 := by
        intro j hj
        by_cases c : zc (zT S o) F j = 0
        · rw [c, Int.zero_mul]
        · have := hB j hj (by rw [hW j hj, if_pos c]; decide)
          rw [this, Int.mul_zero]
      have z0 := z 0 (by omega)
      have z1 := z 1 (by omega)
      have z2 := z 2 (by omega)
      omega
  · have h := hX j hj (by
      rw [hW j hj]
      split
      · decide
      · exact hne)
    rw [hq j hj hne] at h
    exact h
/-- what is known of the goals that are held -/
def zPat (S G : Nat → zV) (o : Nat → Nat) (W : zSt) (K : Nat) : Prop :=
  (∀ a, a < K → ∀ j, j < 3 → zga W 4 j = 0 → zc (zT S o) (G a) j = 0) ∧ (0 < K → ∀ j, j < 3 → zc (zT S o) (G 0) j ≤ 0)
theorem zcst_z {S : Nat → zV} {cnt : Nat} {held : Nat → Prop} {F H : zV} {o o2 : Nat → Nat} {j s : Nat} (ho : zok S cnt o) (h : zcst S cnt held H o o2 j s) (hz : zc (zT S o) F j = 0) {i : Nat} (hi : i < 3) : (zc (zT S o) F i = 0 → zc (zT S o2) F i = 0) ∧ (zc (zT S o) F i ≤ 0 → zc (zT S o2) F i ≤ 0) := by
  obtain ⟨h1, h2, h3, -, -, -, h7, -⟩ := h
  have hg : (0 < zc (zT S o) (S s) j ∧ (-1 : Int) = 1) ∨ (zc (zT S o) (S s) j < 0 ∧ (-1 : Int) = -1) := Or.inr ⟨h7, rfl⟩
  have hp := zsc_pos ho.1
  rw [h3, zT_rs]
  by_cases c : i = j
  · subst c
    rw [zrp_cj h1 (S s) F hg, hz]
    simp
  · have e := zrp_c h1 (show i < 4 by omega) c (S s) F hg
    rw [hz] at e
    have e2 : zsc (zT S o) * zc (zrp (zT S o) j (S s)) F i = -(zc (zT S o) (S s) j) * zc (zT S o) F i := by
      rw [← e]
      generalize zc (zT S o) (S s) j = a
      generalize zc (zT S o) F i = b
      grind
    constructor
    · intro h0
      rw [h0, Int.mul_zero] at e2
      rcases Int.mul_eq_zero.mp e2 with h | h
      · omega
      · exact h
    · intro h0
      have h5 := zmul_pn (show 0 ≤ -(zc (zT S o) (S s) j) by omega) h0
      by_cases c2 : 0 < zc (zrp (zT S o) j (S s)) F i
      · have := Int.mul_pos hp c2
        omega
      · omega
theorem zPat_keep {S G : Nat → zV} {cnt K : Nat} {W : zSt} {H : zV} (o o2 : Nat → Nat) (j s : Nat) (ho : zok S cnt o) (h : zcst S cnt (fun j => zga W 4 j ≠ 0) H o o2 j s) (hp : zPat S G o W K) : zPat S G o2 W K := by
  have hun : zga W 4 j = 0 := by
    by_cases c : zga W 4 j = 0
    · exact c
    · exact absurd c h.2.2.2.1
  refine ⟨fun a ha i hi hu => (zcst_z ho h (hp.1 a ha j h.1 hun) hi).1 (hp.1 a ha i hi hu), fun hK i hi => (zcst_z ho h (hp.1 0 hK j h.1 hun) hi).2 (hp.2 hK i hi)⟩
theorem zc_sum (t : Nat → zV) (F : zV) {b : Nat} (hb : b < 3) : zc t F b = F.1 * zc t (zE 0) b + F.2.1 * zc t (zE 1) b + F.2.2.1 * zc t (zE 2) b := by
  rw [← zXd_ev t F hb]
  unfold zev zXd
  simp
/-- the walk through the least goals -/
theorem zleasts {n m q : Nat} {P sS : zSt} {x2 x3 : Int32} (hP : zPw n m q P) : ∀ (d i f : Nat) (W D Q : zSt) (o ins : Nat → Nat), i + d = n → d < f → zDic (zSo (zGa P x2 x3 n m)) (zGo P q) (zGa P x2 x3 n m).length o ins D → zNx n o → zFe (zSo (zGa P x2 x3 n m)) (zGa P x2 x3 n m).length o → zPat (zSo (zGa P x2 x3 n m)) (zGo P q) o W q →
    ∃ W2 D2 Q2 o2 ins2, fX9_findAll_75 P f W sS D Q (zI i) = some (W2, sS, D2, Q2) ∧ zDic (zSo (zGa P x2 x3 n m)) (zGo P q) (zGa P x2 x3 n m).length o2 ins2 D2 ∧ zNx n o2 ∧ zFe (zSo (zGa P x2 x3 n m)) (zGa P x2 x3 n m).length o2 ∧ zPat (zSo (zGa P x2 x3 n m)) (zGo P q) o2 W2 q ∧ zPt Q2 n (zXb (zT (zSo (zGa P x2 x3 n m)) o2)) ∧ (∀ k, zgi W2 k = zgi W k) ∧ zPath (zSo (zGa P x2 x3 n m)) (zGa P x2 x3 n m).length (zGo P q) (zFa (zSo (zGa P x2 x3 n m)) W2 o2) (zlst (3 + i) d) (zFa (zSo (zGa P x2 x3 n m)) W o)
  | 0, i, f + 1, W, D, Q, o, ins, hi, hf, hD, hx, hfe, hp => by
    have hn := hP.1
    obtain ⟨Q2, f1, f2⟩ := eX9_stand hP hD W Q
    rw [fX9_findAll_75, hP.2.2.2.1]
    simp (disch := omega) only [zI_le_t, if_true, f1, zbq]
    exact ⟨W, D, Q2, o, ins, rfl, hD, hx, hfe, hp, f2, fun _ => rfl, fun X h => h⟩
  | d + 1, i, f + 1, W, D, Q, o, ins, hi, hf, hD, hx, hfe, hp => by
    have hn := hP.1
    have hl := zGa_len hP x2 x3
    rw [fX9_findAll_75, hP.2.2.2.1]
    have e18 : (18 : Int32) + zI i = zI (15 + (3 + i)) := by rw [zn18, zI_add]; congr 1; omega
    obtain ⟨r, f1, o2, ins2, hD2, hx2, hfe2, hp2, hq2, hr⟩ := eX9_climbs (g := 3 + i) (zGa_ns hP x2 x3) (by omega) (zGo_ns hP (Or.inr ⟨by omega, by omega⟩)) (fun o => zPat (zSo (zGa P x2 x3 n m)) (zGo P q) o W q) (fun o o2 j s => zPat_keep o o2 j s) hD hx hfe hp
    obtain ⟨y, W2, D2⟩ := r
    simp (disch := omega) only [zI_le_f, if_false, fX1_goalOfLeast, e18, zbq, f1, zlq]
    rw [zn1, zI_add]
    rcases hr with ⟨h1, h2, h3, h4⟩ | ⟨h1, b, hb, -, -, h5, h6⟩
    · have hface := zface (W2 := W2) hD2.2.1.1 hq2 h2 h4
      have hp3 : zPat (zSo (zGa P x2 x3 n m)) (zGo P q) o2 W2 q := by
        refine ⟨fun a ha j hj hu => hp2.1 a ha j hj ?_, hp2.2⟩
        rw [h4 j hj] at hu
        split at hu
        · cases hu
        · exact hu
      obtain ⟨W3, D3, Q3, o3, ins3, g1, g2, g3, g4, g5, g6, g7, g8⟩ := zleasts hP d (i + 1) f W2 D2 Q o2 ins2 (by omega) (by omega) hD2 hx2 hfe2 hp3
      exact ⟨W3, D3, Q3, o3, ins3, g1, g2, g3, g4, g5, g6, fun k => (g7 k).trans (h3.1 k), _, ⟨_, _, zsc_pos hD2.2.1.1.1, hface.1⟩, hface.2, by rw [show 3 + i + 1 = 3 + (i + 1) by omega]; exact g8⟩
    · exfalso
      have h7 := h6 i (by omega)
      have e1 := zc_sum (zT (zSo (zGa P x2 x3 n m)) o2) (zGo P q (3 + i)) hb
      have e2 := zc_sum (zT (zSo (zGa P x2 x3 n m)) o2) (zSo (zGa P x2 x3 n m) i) hb
      have eG : zGo P q (3 + i) = zGleast P i := by
        have := hP.2.2.1
        unfold zGo
        rw [if_neg (by omega), if_pos (by omega), show 3 + i - 3 = i by omega]
      have t0 : zSo (zGa P x2 x3 n m) 0 = (1, 0, 0, -(zga P 0 0).toInt) := zSo_some (v := ((1, 0, 0, -(zga P 0 0).toInt), false)) (by unfold zGa; rw [List.append_assoc]; rfl)
      have t1 : zSo (zGa P x2 x3 n m) 1 = (0, 1, 0, -(zga P 0 1).toInt) := zSo_some (v := ((0, 1, 0, -(zga P 0 1).toInt), false)) (by unfold zGa; rw [List.append_assoc]; rfl)
      have t2 : zSo (zGa P x2 x3 n m) 2 = (0, 0, 1, -(zga P 0 2).toInt) := zSo_some (v := ((0, 0, 1, -(zga P 0 2).toInt), false)) (by unfold zGa; rw [List.append_assoc]; rfl)
      rw [eG] at e1 h5
      unfold zGleast at e1 h5
      rcases zlt3 (show i < 3 by omega) with rfl | rfl | rfl
      · rw [t0] at e2 h7
        rw [e1] at h5
        rw [e2] at h7
        simp at h5 h7
        omega
      · rw [t1] at e2 h7
        rw [e1] at h5
        rw [e2] at h7
        simp at h5 h7
        omega
      · rw [t2] at e2 h7
        rw [e1] at h5
        rw [e2] at h7
        simp at h5 h7
        omega
/-- what the walk has found -/
def zFnd (S G : Nat → zV) (cnt n q : Nat) (L : List Nat) (a : Nat) (A : zV → Prop) (W D Q : zSt) (o ins : Nat → Nat) : Prop :=
  zDic S G cnt o ins D ∧ zNx n o ∧ zFe S cnt o ∧ zPt Q n (zXb (zT S o)) ∧
    ((zgi W 5 = 111 ∧ zPat S G o W q ∧ zPath S cnt G (zFa S W o) L A) ∨
     ∃ k b, a ≤ k ∧ k < q ∧ b < 3 ∧ zgi W 5 = 117 ∧ zgi W 6 = zI k ∧ zgi W 7 = zI b ∧ zPath S cnt G (zFa S W o) (zlst a (k - a)) A ∧ zga W 4 b = 0 ∧ 0 < zc (zT S o) (G k) b ∧ (∀ s, s < cnt → 0 ≤ zc (zT S o) (S s) b) ∧ ∀ c, c < k → zc (zT S o) (G c) b = 0)
theorem zaims {n m q : Nat} {P sS : zSt} {x2 x3 : Int32} (hP : zPw n m q P) : ∀ (d a f : Nat) (W D Q : zSt) (o ins : Nat → Nat), a + d = q → d < f → zDic (zSo (zGa P x2 x3 n m)) (zGo P q) (zGa P x2 x3 n m).length o ins D → zNx n o → zFe (zSo (zGa P x2 x3 n m)) (zGa P x2 x3 n m).length o → zPat (zSo (zGa P x2 x3 n m)) (zGo P q) o W a → zgi W 5 = 111 → (a = 0 → ∀ j, j < 3 → zga W 4 j = 0) →
    ∃ W2 D2 Q2 o2 ins2, fX9_findAll_29 P f W sS D Q (zI a) = some (W2, sS, D2, Q2) ∧ zgi W2 9 = zgi W 9 ∧ zFnd (zSo (zGa P x2 x3 n m)) (zGo P q) (zGa P x2 x3 n m).length n q (zlst a d ++ zlst 3 n) a (zFa (zSo (zGa P x2 x3 n m)) W o) W2 D2 Q2 o2 ins2
  | 0, a, f + 1, W, D, Q, o, ins, ha, hf, hD, hx, hfe, hp, h5, h0 => by
    have hq := hP.2.2.1
    have e : a = q := by omega
    subst e
    obtain ⟨W2, D2, Q2, o2, ins2, g1, g2, g3, g4, g5, g6, g7, g8⟩ := zleasts (sS := sS) hP n 0 6000 W D Q o ins (by omega) (by have := hP.1; omega) hD hx hfe hp
    rw [fX9_findAll_29, hP.2.2.2.2.2.1]
    simp (disch := omega) only [zI_le_t, if_true]
    rw [zn0]
    exact ⟨W2, D2, Q2, o2, ins2, g1, g7 9, g2, g3, g4, g6, Or.inl ⟨by rw [g7, h5], g5, g8⟩⟩
  | d + 1, a, f + 1, W, D, Q, o, ins, ha, hf, hD, hx, hfe, hp, h5, h0 => by
    have hq := hP.2.2.1
    have hl := zGa_len hP x2 x3
    have e15 : (15 : Int32) + zI a = zI (15 + a) := by rw [zn15, zI_add]
    obtain ⟨r, f1, o2, ins2, hD2, hx2, hfe2, hp2, hq2, hr⟩ := eX9_climbs (g := a) (zGa_ns hP x2 x3) (by omega) (zGo_ns hP (Or.inl (by omega))) (fun o => zPat (zSo (zGa P x2 x3 n m)) (zGo P q) o W a) (fun o o2 j s => zPat_keep o o2 j s) hD hx hfe hp
    obtain ⟨y, W2, D2⟩ := r
    rw [fX9_findAll_29, hP.2.2.2.2.2.1]
    simp (disch := omega) only [zI_le_f, if_false, fX1_goalOfAim, e15, zbq, f1]
    rcases hr with ⟨h1, h2, h3, h4⟩ | ⟨h1, b, hb, hW2, hub, h6, h7⟩
    · have hy : y = 1 := h1
      rw [if_neg (by rw [hy]; decide)]
      simp only [zlq]
      rw [zn1, zI_add]
      have hface := zface (W2 := W2) hD2.2.1.1 hq2 h2 h4
      have hp3 : zPat (zSo (zGa P x2 x3 n m)) (zGo P q) o2 W2 (a + 1) := by
        refine ⟨fun c hc j hj hu => ?_, fun _ j hj => ?_⟩
        · rw [h4 j hj] at hu
          split at hu
          · cases hu
          · rename_i c0
            by_cases ca : c = a
            · rw [ca]
              by_cases c1 : zc (zT (zSo (zGa P x2 x3 n m)) o2) (zGo P q a) j = 0
              · exact c1
              · exact absurd c1 c0
            · exact hp2.1 c (by omega) j hj hu
        · by_cases ca : a = 0
          · have := h2 j hj (h0 ca j hj)
            rw [ca] at this
            exact this
          · exact hp2.2 (by omega) j hj
      obtain ⟨W3, D3, Q3, o3, ins3, g1, g9, g2, g3, g4, g5, g6⟩ := zaims hP d (a + 1) f W2 D2 Q o2 ins2 (by omega) (by omega) hD2 hx2 hfe2 hp3 (by rw [h3.1, h5]) (fun h => by omega)
      refine ⟨W3, D3, Q3, o3, ins3, g1, by rw [g9, h3.1], g2, g3, g4, g5, ?_⟩
      rcases g6 with ⟨k1, k2, k3⟩ | ⟨k, b, k1, k2, k3, k4, k5, k6, k7, k8, k9, k10, k11⟩
      · exact Or.inl ⟨k1, k2, _, ⟨_, _, zsc_pos hD2.2.1.1.1, hface.1⟩, hface.2, k3⟩
      · refine Or.inr ⟨k, b, by omega, k2, k3, k4, k5, k6, ?_, k8, k9, k10, k11⟩
        have e : k - a = (k - (a + 1)) + 1 := by omega
        rw [e]
        exact ⟨_, ⟨_, _, zsc_pos hD2.2.1.1.1, hface.1⟩, hface.2, k7⟩
    · have hy : y = 0 := h1
      rw [if_pos hy]
      simp only [zlq]
      have hW3 : W2 = zsi W 7 (zI b) := hW2
      subst hW3
      obtain ⟨Q2, s1, s2⟩ := eX9_stand hP hD2 (zsi (zsi (zsi W 7 (zI b)) 5 117) 6 (zI a)) Q
      rw [s1]
      simp only [zbq]
      refine ⟨_, _, _, o2, ins2, rfl, by rw [gi_sin (by omega), gi_sin (by omega), gi_sin (by omega)], hD2, hx2, hfe2, s2, Or.inr ⟨a, b, Nat.le_refl a, by omega, hb, ?_, ?_, ?_, ?_, ?_, h6, h7, fun c hc => hp2.1 c hc b hb hub⟩⟩
      · rw [gi_sin (by omega), gi_si]
      · rw [gi_si]
      · rw [gi_sin (by omega), gi_sin (by omega), gi_si]
      · rw [Nat.sub_self]
        intro X hX j hj hne
        have h8 := hX j hj hne
        rw [hq2 j hj hne] at h8
        exact h8
      · exact hub
-- setOut, findsFit
theorem zff_30 {P sS D : zSt} : ∀ (d i f : Nat) (W : zSt), i + d = 3 → d < f → (∀ j, j < i → zga W 4 j = 0) → ∃ W2, (∀ j, j < 3 → zga W2 4 j = 0) ∧ (zgi W2 6 = -1 ∧ zgi W2 7 = -1 ∧ zgi W2 9 = zgi W 9) ∧ fX9_setOut_30 P f W sS D (zI i) = some (W2, sS, D)
  | 0, i, f + 1, W, hi, hf, hW => by
    refine ⟨zsi (zsi W 6 (-1)) 7 (-1), fun j hj => ?_, ⟨?_, ?_, ?_⟩, ?_⟩
    · simp only [ga_si]; exact hW j (by omega)
    · rw [gi_sin (by omega), gi_si]
    · rw [gi_si]
    · rw [gi_sin (by omega), gi_sin (by omega)]
    · rw [fX9_setOut_30]
      simp (disch := omega) only [zn3, zI_le_t, if_true, zlq]
  | d + 1, i, f + 1, W, hi, hf, hW => by
    obtain ⟨W2, h1, h2, h3⟩ := zff_30 (P := P) (sS := sS) (D := D) d (i + 1) f (zsa W 4 (upd (zga W 4) i 0)) (by omega) (by omega) (by
      intro j hj
      rw [ga_sa]
      by_cases c : j = i
      · rw [upd_s c]
      · rw [upd_n c]; exact hW j (by omega))
    refine ⟨W2, h1, h2, ?_⟩
    rw [fX9_setOut_30]
    simp (disch := omega) only [zn3, zI_le_f, if_false, zin_zI, if_true, zI_nat, zb0, zlq]
    rw [zn1, zI_add]
    exact h3
def zFit (S G : Nat → zV) (cnt n : Nat) (y : Int32) (W D : zSt) (o ins : Nat → Nat) : Prop :=
  zDic S G cnt o ins D ∧ zNx n o ∧ (∀ j, j < 3 → zga W 4 j = 0) ∧
    ((y = 1 ∧ zgi W 5 = 111 ∧ zFe S cnt o) ∨ (y = 0 ∧ zgi W 5 = 105 ∧ ∃ b, b < cnt - 3 ∧ zgi W 8 = zI b ∧ zc (zT S o) (S (ins b)) 3 < 0 ∧ ∀ j, j < 3 → zc (zT S o) (S (ins b)) j ≤ 0))
/-- the rows are set out, and the walk comes to a point that fits, if there is one -/
theorem eX9_outs {n m q : Nat} {P : zSt} (hP : zPw n m q P) (W sS D : zSt) (x2 x3 : Int32) : ∃ W1 D1 y W2 s2 D2 o ins, fX9_setOut W P sS D x2 x3 = some (W1, s2, D1) ∧ fX9_mends W1 D1 = some (y, W2, D2) ∧ zgi W2 9 = zgi W 9 ∧ zLi s2 (zGa P x2 x3 n m) ∧ zFit (zSo (zGa P x2 x3 n m)) (zGo P q) (zGa P x2 x3 n m).length n y W2 D2 o ins := by
  obtain ⟨s2, f1, f2⟩ := eX7_gather hP sS x2 x3
  have hl := zGa_len hP x2 x3
  obtain ⟨D1, g1, g2⟩ := eX1_begin (q := q) hP f2 hl.1 hl.2 (zGa_b hP x2 x3) D
  have hD := zBg_dic hP g2
  obtain ⟨W1, h1, h2, h3⟩ := zff_30 (P := P) (sS := s2) (D := D1) 3 0 6000 W (by omega) (by omega) (fun j hj => by omega)
  obtain ⟨r, m1, o, ins, m2, m3, m4, m5⟩ := eX9_mends (zGa_ns hP x2 x3) h1 hD (fun i _ _ => rfl)
  obtain ⟨y, W2, D2⟩ := r
  have e : fX9_setOut W P sS D x2 x3 = some (W1, s2, D1) := by
    unfold fX9_setOut
    rw [f1]
    simp only [zbq]
    rw [g1]
    simp only [zbq]
    rw [zn0, h3]
  have hh : ∀ j, j < 3 → zga W2 4 j = 0 := fun j hj => (congrFun (m2.2.2.1 4) j).trans (h1 j hj)
  have h9 : zgi W2 9 = zgi W 9 := (m2.1 9 (by omega) (by omega)).trans h2.2.2
  rcases m5 with ⟨k1, k6, k2⟩ | ⟨k1, k6, b, k2, k3, k4, k5⟩
  · exact ⟨W1, D1, y, W2, s2, D2, o, ins, e, m1, h9, f2, m3, m4, hh, Or.inl ⟨k1, k6, k2⟩⟩
  · exact ⟨W1, D1, y, W2, s2, D2, o, ins, e, m1, h9, f2, m3, m4, hh, Or.inr ⟨k1, k6, b, k2, k3, k4, k5⟩⟩
theorem eX9_findsFit {n m q : Nat} {P : zSt} (hP : zPw n m q P) (W sS D : zSt) (x2 : Int32) : ∃ y W2 s2 D2 o ins, fX9_findsFit W P sS D x2 = some (y, W2, s2, D2) ∧ zLi s2 (zGa P x2 (-1) n m) ∧ zFit (zSo (zGa P x2 (-1) n m)) (zGo P q) (zGa P x2 (-1) n m).length n y W2 D2 o ins := by
  obtain ⟨W1, D1, y, W2, s2, D2, o, ins, e, m1, -, f2, f3⟩ := eX9_outs hP W sS D x2 (-1)
  have hz : znar .boolean y = true := by
    rcases f3.2.2.2 with ⟨k, -⟩ | ⟨k, -⟩
    · rw [k]; exact znb1
    · rw [k]; exact znb0
  unfold fX9_findsFit
  rw [e]
  simp only [zbq]
  rw [m1]
  simp only [zbq]
  rw [if_pos hz]
  exact ⟨y, W2, s2, D2, o, ins, rfl, f2, f3⟩
theorem zFa_0 {S : Nat → zV} {W : zSt} {o : Nat → Nat} (h : ∀ j, j < 3 → zga W 4 j = 0) (X : zV) : zFa S W o X := fun j hj hne => absurd (h j hj) hne
/-- all that the walk finds, if that is not done -/
theorem eX9_findAll {n m q : Nat} {P : zSt} (hP : zPw n m q P) (W sS D Q : zSt) (hw : zgi W 9 = 0) : ∃ W2 s2 D2 Q2 o ins, fX9_findAll W P sS D Q = some (W2, s2, D2, Q2) ∧ zgi W2 9 = 1 ∧ zLi s2 (zGa P 0 (-1) n m) ∧
    (zFnd (zSo (zGa P 0 (-1) n m)) (zGo P q) (zGa P 0 (-1) n m).length n q (zlst 0 q ++ zlst 3 n) 0 (fun _ => True) W2 D2 Q2 o ins ∨ (zFit (zSo (zGa P 0 (-1) n m)) (zGo P q) (zGa P 0 (-1) n m).length n 0 W2 D2 o ins ∧ Q2 = Q)) := by
  obtain ⟨W0, D0, y, W1, s2, D1, o, ins, f1, f0, f9, f2, f3⟩ := eX9_outs hP (zsi W 9 1) sS D 0 (-1)
  rw [gi_si] at f9
  unfold fX9_findAll
  rw [if_pos hw, zlq, f1]
  simp only [zbq]
  rw [f0]
  simp only [zbq]
  rcases f3.2.2.2 with ⟨h1, h2, h3⟩ | ⟨h1, h2⟩
  · rw [if_neg (by rw [h1]; decide), zn0]
    obtain ⟨W3, D3, Q3, o3, ins3, g1, g9, g2, g3, g4, g5, g6⟩ := zaims (sS := s2) hP q 0 6000 W1 D1 Q o ins (by omega) (by have := hP.2.2.1; omega) f3.1 f3.2.1 h3 ⟨fun a ha => by omega, fun h => by omega⟩ h2 (fun _ => f3.2.2.1)
    refine ⟨W3, s2, D3, Q3, o3, ins3, g1, g9.trans f9, f2, Or.inl ⟨g2, g3, g4, g5, ?_⟩⟩
    have tr : ∀ L A, (∀ X, A X) → zPath (zSo (zGa P 0 (-1) n m)) (zGa P 0 (-1) n m).length (zGo P q) (zFa (zSo (zGa P 0 (-1) n m)) W3 o3) L A → zPath (zSo (zGa P 0 (-1) n m)) (zGa P 0 (-1) n m).length (zGo P q) (zFa (zSo (zGa P 0 (-1) n m)) W3 o3) L (fun _ => True) := by
      intro L A hA h
      cases L with
      | nil => exact fun X _ => trivial
      | cons g gs =>
        obtain ⟨A2, ⟨s, v, h1, h2⟩, h3, h4⟩ := h
        exact ⟨A2, ⟨s, v, h1, fun X hX _ => h2 X hX (hA X)⟩, fun _ _ => trivial, h4⟩
    rcases g6 with ⟨k1, k2, k3⟩ | ⟨k, b, k1, k2, k3, k4, k5, k6, k7, k8⟩
    · exact Or.inl ⟨k1, k2, tr _ _ (fun X => zFa_0 f3.2.2.1 X) k3⟩
    · exact Or.inr ⟨k, b, k1, k2, k3, k4, k5, k6, tr _ _ (fun X => zFa_0 f3.2.2.1 X) k7, k8⟩
  · rw [if_pos h1]
    subst h1
    exact ⟨W1, s2, D1, Q, o, ins, rfl, f9, f2, Or.inr ⟨f3, rfl⟩⟩

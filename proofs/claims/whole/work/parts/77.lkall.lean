/-! 77: looks finds what findAll found. -/
def zFLk (A B : zSt) : Prop := (∀ k, (k < 31 ∨ 36 < k) → zgi B k = zgi A k) ∧ (∀ k, zgl B k = zgl A k) ∧ (∀ k, (k < 24 ∨ 26 < k) → zga B k = zga A k) ∧ ∀ k, (k < 19 ∨ 29 < k) → zgb B k = zgb A k
theorem zFLk.refl (O : zSt) : zFLk O O := ⟨fun _ _ => rfl, fun _ => rfl, fun _ _ => rfl, fun _ _ => rfl⟩
theorem zFLk.trans {A B C : zSt} (h : zFLk A B) (g : zFLk B C) : zFLk A C := ⟨fun k h1 => (g.1 k h1).trans (h.1 k h1), fun k => (g.2.1 k).trans (h.2.1 k), fun k h1 => (g.2.2.1 k h1).trans (h.2.2.1 k h1), fun k h1 => (g.2.2.2 k h1).trans (h.2.2.2 k h1)⟩
theorem zFLk_K {A B : zSt} (h : zFK A B) : zFLk A B := ⟨fun k hk => h.1 k (by omega) (by omega), h.2.1, fun k hk => h.2.2.1 k (by omega) (by omega), fun k hk => h.2.2.2 k (by omega) (by omega)⟩
theorem zFLk_M {A B : zSt} (h : zFM A B) : zFLk A B := ⟨fun k hk => h.1 k (by omega), h.2.1, fun k hk => h.2.2.1 k (by omega), fun k _ => h.2.2.2 k⟩
theorem zFLk_P {A B : zSt} (h : zFP A B) : zFLk A B := ⟨fun k hk => h.1 k (by omega) (by omega), h.2.1, fun k hk => h.2.2.1 k (by omega) (by omega), fun k hk => h.2.2.2 k (by omega)⟩
theorem zFLk_R {A B : zSt} (h : zFR A B) : zFLk A B := ⟨fun k hk => h.1 k (by omega) (by omega), h.2.1, fun k hk => h.2.2.1 k (by omega) (by omega), fun k hk => h.2.2.2 k (by omega) (by omega) (by omega) (by omega)⟩
theorem zRl_k {n m q : Nat} {P O O2 : zSt} (h : zRl n m q P O) (hf : zFLk O O2) : zRl n m q P O2 := by
  unfold zRl
  rw [hf.1 10 (by omega), hf.1 11 (by omega), hf.1 12 (by omega), hf.2.2.1 0 (by omega), hf.2.2.1 1 (by omega), hf.2.2.1 2 (by omega), hf.2.2.1 3 (by omega), hf.2.2.1 4 (by omega), hf.2.2.1 5 (by omega), hf.2.2.1 6 (by omega), hf.2.2.1 7 (by omega)]
  exact h
theorem zPLs_k {n m : Nat} {O O2 : zSt} (hf : zFLk O O2) (x1 x2 : Int32) (rays : Bool) : zPLs O2 n m x1 x2 rays = zPLs O n m x1 x2 rays := by
  have hB : ∀ i, zPB O2 n rays i = zPB O n rays i := fun i => by unfold zPB; rw [hf.2.2.1 0 (by omega), hf.2.2.1 1 (by omega)]
  have hR : ∀ r, zPR O2 x1 x2 rays r = zPR O x1 x2 rays r := fun r => by unfold zPR zRn; rw [hf.2.2.1 2 (by omega), hf.2.2.1 3 (by omega), hf.2.2.1 4 (by omega)]
  have hBs : ∀ k, zPBs O2 n rays k = zPBs O n rays k := by
    intro k
    induction k with
    | zero => rfl
    | succ k ih => unfold zPBs; rw [ih, hB]
  have hRs : ∀ k, zPRs O2 x1 x2 rays k = zPRs O x1 x2 rays k := by
    intro k
    induction k with
    | zero => rfl
    | succ k ih => unfold zPRs; rw [ih, hR]
  unfold zPLs
  rw [hBs, hRs]
section ZALL
variable {n m q : Nat} {P O : zSt} {y2 y3 x1 x2 : Int32}
/-- points and rays are found -/
theorem zlk_pre (hP : zPw n m q P) (h : zRl n m q P O) (hs : zSm m P O y2 y3 x1 x2) (hm6 : znb x1 m ≤ 6) : ∃ O2 np nr, fX12_looks O x1 x2 = (if zgi O2 32 = 0 then fX12_looks_26 O2 105 else fX12_looks_26 O2 111) ∧ zFLk O O2 ∧ zPts (zPLs O n m x1 x2 false) O2 np ∧ zRays (zPLs O n m x1 (-1) true) O2 nr ∧ zEnv n m q P O2 (zSo (zGa P y2 y3 n m)) (zGa P y2 y3 n m).length np nr ∧ ∀ X, zfit (zPLs O n m x1 x2 false) (zPLs O n m x1 x2 false).length X ↔ (∀ s, s < (zGa P y2 y3 n m).length → 0 ≤ zev (zSo (zGa P y2 y3 n m) s) X) ∧ ∀ i, i < 3 → n ≤ i → zco X i = 0 := by
  obtain ⟨O1, np, f1, f2, f3⟩ := eX12_findsPoints (n := n) (m := m) (O := O) x1 x2 hm6 (zRl_ow hP h)
  have k1 := zFLk_P f2
  have h1 := zRl_k h k1
  obtain ⟨O2, nr, g1, g2, g3⟩ := eX12_findsRays (n := n) (m := m) (O := O1) x1 hm6 (zRl_ow hP h1)
  have k2 := zFLk_R g2
  have h2 := zRl_k h1 k2
  rw [zPLs_k k1] at g3
  have hpts : zPts (zPLs O n m x1 x2 false) O2 np := by
    have ePo : ∀ p X, zPo O1 p X → zPo O2 p X := fun p X hp => by
      unfold zPo
      rw [g2.2.2.2 21 (by omega) (by omega) (by omega) (by omega), g2.2.2.2 22 (by omega) (by omega) (by omega) (by omega), g2.2.2.1 25 (by omega) (by omega)]
      exact hp
    refine ⟨by rw [g2.1 32 (by omega) (by omega)]; exact f3.1, f3.2.1, fun p hp => ?_, fun i j k u v w a b c d e r s => ?_⟩
    · obtain ⟨i, j, k, u, v, w, a1, a2, a3, a4, a5, a6, a7, a8⟩ := f3.2.2.1 p hp
      exact ⟨i, j, k, u, v, w, a1, a2, a3, a4, a5, a6, a7, ePo _ _ a8⟩
    · obtain ⟨p, p1, p2⟩ := f3.2.2.2 i j k u v w a b c d e r s
      exact ⟨p, p1, ePo _ _ p2⟩
  have hff := zpts_feas hP h hs hpts
  have hrf := zrays_feas hP h hs g3
  refine ⟨O2, np, nr, ?_, k1.trans k2, hpts, g3, ⟨hP, fun a ha => zRl_bA hP h2 ha, h2.2.2.1, zpts_b hP h hpts, zrays_b hP h g3, f3.2.1, g3.2.1, hpts.1, g3.1, fun p hp => (hff p hp).1, hrf, fun a ha => zGaim_ev h2 ha⟩, zfit_iff hP h hs⟩
  unfold fX12_looks
  rw [f1, zbq, g1, zbq]
/-- no point fits -/
theorem zlk_i (hP : zPw n m q P) (h : zRl n m q P O) (hs : zSm m P O y2 y3 x1 x2) (hm6 : znb x1 m ≤ 6) {G : Nat → zV} {W D : zSt} {o ins : Nat → Nat} (hF : zFit (zSo (zGa P y2 y3 n m)) G (zGa P y2 y3 n m).length n 0 W D o ins) : ∃ O2, fX12_looks O x1 x2 = some O2 ∧ zFLk O O2 ∧ zgi O2 36 = 105 ∧ zgi O2 34 = zI 0 ∧ zgi O2 32 = zI 0 := by
  obtain ⟨O2, np, nr, e1, k1, hpts, hrays, hE, -⟩ := zlk_pre hP h hs hm6
  have hff := zpts_feas hP h hs hpts
  obtain ⟨hD, -, -, hc⟩ := hF
  have hnp : np = 0 := by
    rcases hc with ⟨h1, -⟩ | ⟨-, -, b, hb, -, h3, h4⟩
    · cases h1
    · by_cases c : np = 0
      · exact c
      · exfalso
        obtain ⟨⟨f1, f2⟩, f3, -⟩ := hff 0 (by omega)
        have hcr := zc_cramer (zT (zSo (zGa P y2 y3 n m)) o) (zSo (zGa P y2 y3 n m) (ins b)) (zVp O2 0)
        have hsc := zsc_pos hD.2.1.1.1
        have l1 := Int.mul_nonneg (Int.le_of_lt hsc) (f2 _ (hD.2.1.2.1 b hb))
        have t : ∀ j, j < 3 → zc (zT (zSo (zGa P y2 y3 n m)) o) (zSo (zGa P y2 y3 n m) (ins b)) j * zev (zT (zSo (zGa P y2 y3 n m)) o j) (zVp O2 0) ≤ 0 := fun j hj => zmul_np (h4 j hj) (f2 _ (hD.2.1.1.2 j hj))
        have t0 := t 0 (by omega)
        have t1 := t 1 (by omega)
        have t2 := t 2 (by omega)
        have t3 := zmul_mp h3 f3
        omega
  have hq := hP.2.2.1
  have h32 : zgi O2 32 = 0 := by rw [hpts.1, hnp]; rfl
  have z105 : znar .char (105 : Int32) = true := by decide
  have h12 : ∀ v : Int32, zgi (zsi (zsi O2 36 105) 34 v) 12 = zI q := fun v => by rw [gi_sin (by omega), gi_sin (by omega)]; exact hE.2.2.1
  have h36 : ∀ v : Int32, zgi (zsi (zsi O2 36 105) 34 v) 36 = 105 := fun v => by rw [gi_sin (by omega), gi_si]
  have last : ∀ v : Int32, fX12_looks_102 (zsi (zsi O2 36 105) 34 v) = some (zsi (zsi O2 36 105) 34 v) := fun v => by
    unfold fX12_looks_102
    rw [h36, if_neg (by decide)]
    rfl
  have key : ∀ f, fX12_looks_52 (f + 1) (zsi (zsi O2 36 105) 34 0) (zI 0) = some (zsi (zsi O2 36 105) 34 0) := by
    intro f
    rw [fX12_looks_52, h12, h36]
    by_cases c : zI q ≤ zI 0
    · rw [if_pos c]; exact last 0
    · rw [if_neg c, if_neg (by decide)]; exact last 0
  refine ⟨zsi (zsi O2 36 105) 34 0, ?_, k1.trans ⟨fun k hk => by rw [gi_sin (by omega), gi_sin (by omega)], fun _ => rfl, fun _ _ => rfl, fun _ _ => rfl⟩, h36 0, gi_si, ?_⟩
  · have s36 : zgi (zsi O2 36 105) 36 = 105 := gi_si
    rw [e1, if_pos h32]
    unfold fX12_looks_26
    rw [if_pos z105, zlq, if_pos s36]
    unfold fX12_looks_47
    rw [zlq]
    exact key 5999
  · rw [gi_sin (by omega), gi_sin (by omega), h32]
    rfl
/-- what the reference knows then -/
def zLk (n q : Nat) (O : zSt) (W Q : zSt) (X : zV) (O2 : zSt) : Prop :=
  zPt Q n X ∧ 0 < X.2.2.2 ∧ zgi O2 32 ≠ 0 ∧
  ((zgi W 5 = 111 ∧ zgi O2 36 = 111 ∧ zgi O2 34 = zI q ∧ (∀ b, b < q → zVal O b X O2) ∧ ∃ fd np, zgi O2 35 = zI fd ∧ fd < np ∧ np ≤ 220 ∧ zbP O2 np ∧ zSame (zVp O2 fd) X) ∨
   ∃ k, k < q ∧ zgi W 5 = 117 ∧ zgi W 6 = zI k ∧ zgi O2 36 = 117 ∧ zgi O2 34 = zI k ∧ ∀ b, b < k → zVal O b X O2)
theorem zlst_nil (a d : Nat) : zlst a d ++ [] = zlst a d := List.append_nil _
theorem zlk_f (hP : zPw n m q P) (h : zRl n m q P O) (hs : zSm m P O y2 y3 x1 x2) (hm6 : znb x1 m ≤ 6) {W D Q : zSt} {o ins : Nat → Nat} (hF : zFnd (zSo (zGa P y2 y3 n m)) (zGo P q) (zGa P y2 y3 n m).length n q (zlst 0 q ++ zlst 3 n) 0 (fun _ => True) W D Q o ins) : ∃ O2, fX12_looks O x1 x2 = some O2 ∧ zFLk O O2 ∧ zLk n q O W Q (zXb (zT (zSo (zGa P y2 y3 n m)) o)) O2 := by
  obtain ⟨O2, np, nr, e1, k1, hpts, hrays, hE, hfi⟩ := zlk_pre hP h hs hm6
  have hff := zpts_feas hP h hs hpts
  obtain ⟨hD, hx, hfe, hQ, hout⟩ := hF
  have hq := hP.2.2.1
  have hn := hP.1
  have hsc := zsc_pos hD.2.1.1.1
  obtain ⟨p0, hp0, hw0, hprop⟩ := zpoint_in hP h hs hpts hD.2.1.1 hx hfe
  have hX : zfeas (zSo (zGa P y2 y3 n m)) (zGa P y2 y3 n m).length (zXb (zT (zSo (zGa P y2 y3 n m)) o)) := ⟨Int.le_of_lt hsc, fun s hs => by rw [zXb_ev]; exact hfe s hs⟩
  have hBX : zFa (zSo (zGa P y2 y3 n m)) W o (zXb (zT (zSo (zGa P y2 y3 n m)) o)) := fun j hj _ => by
    rw [zXb_ev]
    exact zou_val ⟨j, hj, rfl⟩ (by omega) (fun j hj _ => by omega)
  have hBp : zFa (zSo (zGa P y2 y3 n m)) W o (zVp O2 p0) := fun j hj hne => by
    have e := hprop (zSo (zGa P y2 y3 n m) (o j))
    rw [hBX j hj hne, Int.zero_mul] at e
    rcases Int.mul_eq_zero.mp e with h | h
    · omega
    · exact h
  have hXz : ∀ k, n ≤ k → k < 3 → zco (zXb (zT (zSo (zGa P y2 y3 n m)) o)) k = 0 := by
    intro k h1 h2
    rw [zXb_co hP o h2]
    have e2 : zc (zT (zSo (zGa P y2 y3 n m)) o) (zSo (zGa P y2 y3 n m) k) 3 = 0 := zou_val ⟨k, h2, hx k h2 h1⟩ (by omega) (fun j hj _ => by omega)
    rw [e2, (hP.2.2.2.2.2.2.2.2.1 k h2 h1).1]
    simp
  have hwX : 0 < (zXb (zT (zSo (zGa P y2 y3 n m)) o)).2.2.2 := hsc
  have h32 : ¬ zgi O2 32 = 0 := by
    rw [hpts.1]
    intro e
    have := hpts.2.1
    rw [zn0, zI_eq (by omega) (by omega)] at e
    omega
  have hOi : zgi O2 12 = zI q := hE.2.2.1
  have kst : zFK O2 (zsi (zsi O2 36 111) 34 (zI q)) := ⟨fun k a b => by rw [gi_sin a, gi_sin b], fun _ => rfl, fun _ _ _ => rfl, fun _ _ _ => rfl⟩
  have hE2 := zEnv_K hE kst
  have fe := zFK_eq kst
  have h36 : zgi (zsi (zsi O2 36 111) 34 (zI q)) 36 = 111 := by rw [gi_sin (by omega), gi_si]
  have h34 : zgi (zsi (zsi O2 36 111) 34 (zI q)) 34 = zI q := gi_si
  have hall25 : ∀ p, p < np → zga O2 25 p = 1 := by
    intro p hp
    obtain ⟨i, j, k, u, v, w, -, -, -, -, -, -, -, a8⟩ := hpts.2.2.1 p hp
    exact a8.2.2
  have hall26 : ∀ p, p < nr → zga O2 26 p = 1 := by
    intro p hp
    obtain ⟨i, j, u, v, -, -, -, -, -, a8⟩ := hrays.2.2.1 p hp
    exact a8.2
  have hL0 : zLf (zsi (zsi O2 36 111) 34 (zI q)) np nr (fun p => (fun _ : zV => True) (zVp (zsi (zsi O2 36 111) 34 (zI q)) p)) (fun p => (fun _ : zV => True) (zVr (zsi (zsi O2 36 111) 34 (zI q)) p)) := by
    refine ⟨fun p hp => ⟨fun _ => trivial, fun _ => ?_⟩, fun p hp => ⟨fun _ => trivial, fun _ => ?_⟩⟩
    · have : zga O2 25 p ≠ 0 := by rw [hall25 p hp]; decide
      exact this
    · have : zga O2 26 p ≠ 0 := by rw [hall26 p hp]; decide
      exact this
  have start : fX12_looks O x1 x2 = fX12_looks_52 6000 (zsi (zsi O2 36 111) 34 (zI q)) (zI 0) := by
    have z111 : znar .char (111 : Int32) = true := by decide
    have s36 : ¬ zgi (zsi O2 36 111) 36 = 105 := by rw [gi_si]; decide
    have s12 : zgi (zsi O2 36 111) 12 = zI q := by rw [gi_sin (by omega)]; exact hOi
    rw [e1, if_neg h32]
    unfold fX12_looks_26
    rw [if_pos z111, zlq, if_neg s36, s12]
    unfold fX12_looks_47
    rw [zlq, zn0]
  have ex : ∃ p, p < np ∧ zFa (zSo (zGa P y2 y3 n m)) W o (zVp (zsi (zsi O2 36 111) 34 (zI q)) p) := ⟨p0, hp0, by rw [fe.1]; exact hBp⟩
  have hA0 : ∀ b, zA0 O2 b = zA0 O b := fun b => by unfold zA0; rw [k1.2.2.1 5 (by omega)]
  rcases hout with ⟨w5, -, hpath⟩ | ⟨k, b, -, hkq, hb, w5, w6, w7, hpath, hub, hpos, hcol, -⟩
  · obtain ⟨O3, A3, g1, g2, g3, g4, g5, g6, g7, g8⟩ := zaims_path q 0 (5999 - q + 1) (zsi (zsi O2 36 111) 34 (zI q)) (fun _ => True) hE2 (by omega) h36 hL0 hpath ex
    have fe3 := zFK_eq g2
    have hE3 := zEnv_K hE2 g2
    obtain ⟨-, -, q12, qb, -, qnp, -, q32, -, qf, -, -⟩ := hE3
    obtain ⟨O4, fd, r1, r2, r3, r4, r5⟩ := zleast_all (n := n) (m := m) (q := q) (P := P) (S := zSo (zGa P y2 y3 n m)) (cnt := (zGa P y2 y3 n m).length) (np := np) (B := zFa (zSo (zGa P y2 y3 n m)) W o) hP (by omega) (O := O3) (A := A3) qb q32 qf (fun p hp => by rw [fe3.1]; exact g5.1 p hp) g6 (by
      obtain ⟨p, e1, e2⟩ := ex
      exact ⟨p, e1, by rw [fe3.1]; exact e2⟩) (fun p hp k h1 h2 => by rw [fe3.1, fe.1]; exact (hff p hp).2.2.1 k h2 h1) hX hBX hXz
    have g1' : fX12_looks_52 6000 (zsi (zsi O2 36 111) 34 (zI q)) (zI 0) = fX12_looks_52 (5999 - q + 1) O3 (zI q) := by
      rw [show 5999 - q + 1 + q = 6000 by omega, Nat.zero_add] at g1
      exact g1
    have vM := zFM_eq r2 (np := np)
    refine ⟨O4, ?_, (k1.trans (zFLk_K kst)).trans ((zFLk_K g2).trans (zFLk_M r2)), hQ, hwX, ?_, Or.inl ⟨w5, by rw [r2.1 36 (by omega), g3], by rw [r2.1 34 (by omega), g4, h34], fun b hb => ?_, fd, np, r3, r4, qnp, vM.2 qb, ?_⟩⟩
    · rw [start, g1', fX12_looks_52, q12, if_pos (Int32.le_refl _)]
      unfold fX12_looks_102
      rw [if_pos g3, r1, zbq]
      rfl
    · rw [r2.1 32 (by omega), q32, ← hpts.1]
      exact h32
    · have hv := g8 b (Nat.zero_le b) (by omega) _ hX hwX hBX
      unfold zVal at hv ⊢
      rw [r2.2.2.2, r2.2.2.2]
      rw [fe.2.2.1, hA0] at hv
      exact hv
    · rw [vM.1]
      exact r5
  · rw [Nat.sub_zero, ← zlst_nil 0 k] at hpath
    obtain ⟨O3, A3, g1, g2, g3, g4, g5, g6, g7, g8⟩ := zaims_path k 0 (5998 - k + 2) (zsi (zsi O2 36 111) 34 (zI q)) (fun _ => True) hE2 (by omega) h36 hL0 hpath ex
    have fe3 := zFK_eq g2
    have hE3 := zEnv_K hE2 g2
    obtain ⟨-, qA, q12, qb, qr, qnp, qnr, q32, q33, qf, qrf, qG⟩ := hE3
    have hbn : b < n := by
      by_cases c : b < n
      · exact c
      · have := zNx_c (zGa_ns hP y2 y3) hD.2.1.1 hx hb (by omega) (zGo_ns hP (g := k) (Or.inl (by omega)) b hb (by omega))
        omega
    obtain ⟨pr, hpr, lam, hlam, hray⟩ := zray_in hP h hs hrays hD.2.1.1 hx hb (Or.inl hbn) hcol (F := zGo P q k) (by omega)
    have hA3r : zga O3 26 pr ≠ 0 := by
      refine (g5.2 pr hpr).mpr (g6 _ ?_)
      rw [fe.2.1]
      intro j hj hne
      have e := hray (zSo (zGa P y2 y3 n m) (o j))
      rw [zXd_ev _ _ hb] at e
      have hjb : b ≠ j := fun e2 => hne (by rw [← e2]; exact hub)
      have e3 := zc_own (t := zT (zSo (zGa P y2 y3 n m)) o) hj (show b < 4 by omega)
      rw [if_neg hjb] at e3
      have e4 : zc (zT (zSo (zGa P y2 y3 n m)) o) (zSo (zGa P y2 y3 n m) (o j)) b = 0 := e3
      rw [e4, Int.mul_zero] at e
      rcases Int.mul_eq_zero.mp e with h | h
      · omega
      · exact h
    have hopen : fX12_isOpenFor O3 (zI k) = some 1 := by
      obtain ⟨y, y1, y2⟩ := eX12_isOpenFor (show k < 3 by omega) (qA k hkq) qr (by omega) q33
      rcases y2 with ⟨rfl, y3⟩ | ⟨rfl, -⟩
      · exfalso
        have hle := y3 pr hpr hA3r
        obtain ⟨c, hc⟩ := qG k hkq
        have e5 := hc (zVr O3 pr)
        have hw : (zVr O3 pr).2.2.2 = 0 := rfl
        rw [hw, Int.mul_zero] at e5
        have e6 := hray (zGo P q k)
        have hG : zGo P q k = zGaim P k := by unfold zGo; rw [if_pos ⟨hkq, by omega⟩]
        rw [zXd_ev _ _ hb] at e6
        have e7 := Int.mul_pos hlam hpos
        rw [hG] at e6 e7
        have e8 : zVr O3 pr = zVr O2 pr := by rw [fe3.2.1, fe.2.1]
        rw [e8] at e5 hle
        have e9 : zev (zGaim P k) (zVr O2 pr) ≤ 0 := by omega
        have := zmul_pn (Int.le_of_lt hsc) e9
        omega
      · exact y1
    have g1' : fX12_looks_52 6000 (zsi (zsi O2 36 111) 34 (zI q)) (zI 0) = fX12_looks_52 (5998 - k + 2) O3 (zI k) := by
      rw [show 5998 - k + 2 + k = 6000 by omega, Nat.zero_add] at g1
      exact g1
    have s36 : ¬ zgi (zsi (zsi O3 36 117) 34 (zI k)) 36 = 111 := by rw [gi_sin (by omega), gi_si]; decide
    have one1 : ¬ (1 : Int32) = 0 := by decide
    have last : fX12_looks_52 (5998 - k + 1) (zsi (zsi O3 36 117) 34 (zI k)) (zI (k + 1)) = some (zsi (zsi O3 36 117) 34 (zI k)) := by
      have e102 : fX12_looks_102 (zsi (zsi O3 36 117) 34 (zI k)) = some (zsi (zsi O3 36 117) 34 (zI k)) := by
        unfold fX12_looks_102
        rw [if_neg s36]
        rfl
      rw [fX12_looks_52]
      by_cases c : zgi (zsi (zsi O3 36 117) 34 (zI k)) 12 ≤ zI (k + 1)
      · rw [if_pos c, e102]
      · rw [if_neg c, if_neg s36, e102]
    refine ⟨zsi (zsi O3 36 117) 34 (zI k), ?_, (k1.trans (zFLk_K kst)).trans ((zFLk_K g2).trans ⟨fun k hk => by rw [gi_sin (by omega), gi_sin (by omega)], fun _ => rfl, fun _ _ => rfl, fun _ _ => rfl⟩), hQ, hwX, ?_, Or.inr ⟨k, hkq, w5, w6, by rw [gi_sin (by omega), gi_si], gi_si, fun b2 hb2 => ?_⟩⟩
    · rw [start, g1', fX12_looks_52, q12, if_neg (by rw [zI_le (by omega) (by omega)]; omega), if_pos g3, hopen, zbq, if_neg one1, zlq, zlq]
      unfold fX12_looks_96
      rw [zlq, zn1, zI_add]
      exact last
    · rw [gi_sin (by omega), gi_sin (by omega), q32, ← hpts.1]
      exact h32
    · have hv := g8 b2 (Nat.zero_le b2) (by omega) _ hX hwX hBX
      unfold zVal at hv ⊢
      rw [gb_si, gb_si, gb_si, gb_si]
      rw [fe.2.2.1, hA0] at hv
      exact hv
end ZALL

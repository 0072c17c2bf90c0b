/-! 75: the reference looks: it finds what the walk found. -/
/-- the functional that an aim is for the reference -/
theorem zGaim_ev {n m q : Nat} {P O : zSt} (h : zRl n m q P O) {a : Nat} (ha : a < q) : ∃ c : Int, ∀ X, zev (zGaim P a) X = zsm O a * zev (zA0 O a) X - c * X.2.2.2 := by
  have h6 := (h.2.2.2.2.2.1 a ha)
  have hd : zsm O a = (zga P 7 a).toInt := by
    unfold zsm
    rcases h6.2 with ⟨e, e2⟩ | ⟨e, e2⟩
    · rw [if_neg e2, e]; decide
    · rw [if_pos e2, e]; decide
  refine ⟨(zga P 7 a).toInt * (zga P 6 (a * 3 + 0)).toInt * (zga P 0 0).toInt + (zga P 7 a).toInt * (zga P 6 (a * 3 + 1)).toInt * (zga P 0 1).toInt + (zga P 7 a).toInt * (zga P 6 (a * 3 + 2)).toInt * (zga P 0 2).toInt, fun X => ?_⟩
  have e0 := h6.1 0 (by omega)
  have e1 := h6.1 1 (by omega)
  have e2 := h6.1 2 (by omega)
  rw [hd]
  unfold zGaim zA0 zev
  simp only []
  rw [show zga O 5 (3 * a) = zga P 6 (a * 3 + 0) from e0, e1, e2]
  generalize (zga P 7 a).toInt = d
  generalize (zga P 6 (a * 3 + 0)).toInt = c0
  generalize (zga P 6 (a * 3 + 1)).toInt = c1
  generalize (zga P 6 (a * 3 + 2)).toInt = c2
  generalize (zga P 0 0).toInt = l0
  generalize (zga P 0 1).toInt = l1
  generalize (zga P 0 2).toInt = l2
  grind
/-- what the loop over the aims changes -/
def zFK (A B : zSt) : Prop := (∀ k, k ≠ 34 → k ≠ 36 → zgi B k = zgi A k) ∧ (∀ k, zgl B k = zgl A k) ∧ (∀ k, k ≠ 25 → k ≠ 26 → zga B k = zga A k) ∧ ∀ k, k ≠ 28 → k ≠ 29 → zgb B k = zgb A k
theorem zFK.refl (O : zSt) : zFK O O := ⟨fun _ _ _ => rfl, fun _ => rfl, fun _ _ _ => rfl, fun _ _ _ => rfl⟩
theorem zFK.trans {A B C : zSt} (h : zFK A B) (g : zFK B C) : zFK A C := ⟨fun k h1 h2 => (g.1 k h1 h2).trans (h.1 k h1 h2), fun k => (g.2.1 k).trans (h.2.1 k), fun k h1 h2 => (g.2.2.1 k h1 h2).trans (h.2.2.1 k h1 h2), fun k h1 h2 => (g.2.2.2 k h1 h2).trans (h.2.2.2 k h1 h2)⟩
theorem zFL_K {A B : zSt} (h : zFL A B) : zFK A B := ⟨fun k _ _ => h.1 k, h.2.1, h.2.2.1, h.2.2.2⟩
theorem zPath_B {S : Nat → zV} {cnt : Nat} {G : Nat → zV} {B : zV → Prop} : ∀ (L : List Nat) (A : zV → Prop), zPath S cnt G B L A → ∀ X, B X → A X
  | [], _, h, X, hX => h X hX
  | _ :: gs, _, ⟨A2, _, h2, h3⟩, X, hX => h2 X (zPath_B gs A2 h3 X hX)
/-- the value of an aim, in lowest terms, as the point X has it -/
def zVal (O : zSt) (b : Nat) (X : zV) (O2 : zSt) : Prop := (zgb O2 28 b).toInt = (zlow (zev (zA0 O b) X) X.2.2.2.toNat).1 ∧ (zgb O2 29 b).toInt = (zlow (zev (zA0 O b) X) X.2.2.2.toNat).2
theorem zval_eq {s v : Int} {sg x y wx wy : Int} (hs : 0 < s) (hsg : sg = 1 ∨ sg = -1) (hwx : 0 < wx) (hwy : 0 < wy) (hx : s * (sg * x) = v * wx) (hy : s * (sg * y) = v * wy) : zlow x wx.toNat = zlow y wy.toNat := by
  apply zlow_eq (by omega) (by omega)
  have e1 : ((wx.toNat : Nat) : Int) = wx := by omega
  have e2 : ((wy.toNat : Nat) : Int) = wy := by omega
  rw [e1, e2]
  have hne : s * sg ≠ 0 := by
    intro e
    rcases Int.mul_eq_zero.mp e with h | h <;> omega
  apply Int.eq_of_mul_eq_mul_left hne
  have h1 : s * sg * (x * wy) = s * (sg * x) * wy := by grind
  have h2 : s * sg * (y * wx) = s * (sg * y) * wx := by grind
  rw [h1, h2, hx, hy]
  grind
/-- all that stays while the reference looks at aims -/
def zEnv (n m q : Nat) (P O : zSt) (S : Nat → zV) (cnt np nr : Nat) : Prop :=
  zPw n m q P ∧ (∀ a, a < q → zbA O a) ∧ zgi O 12 = zI q ∧ zbP O np ∧ zbR O nr ∧ np ≤ 220 ∧ nr ≤ 66 ∧ zgi O 32 = zI np ∧ zgi O 33 = zI nr ∧ (∀ p, p < np → zfeas S cnt (zVp O p)) ∧ (∀ p, p < nr → zfeas S cnt (zVr O p)) ∧ ∀ a, a < q → ∃ c : Int, ∀ X, zev (zGaim P a) X = zsm O a * zev (zA0 O a) X - c * X.2.2.2
theorem zFK_eq {A B : zSt} (h : zFK A B) : (∀ p, zVp B p = zVp A p) ∧ (∀ p, zVr B p = zVr A p) ∧ (∀ a, zA0 B a = zA0 A a) ∧ (∀ a, zsm B a = zsm A a) := by
  refine ⟨fun p => by unfold zVp; rw [h.2.2.2 21 (by omega) (by omega), h.2.2.2 22 (by omega) (by omega)], fun p => by unfold zVr; rw [h.2.2.2 23 (by omega) (by omega)], fun a => by unfold zA0; rw [h.2.2.1 5 (by omega) (by omega)], fun a => by unfold zsm; rw [h.2.2.1 7 (by omega) (by omega)]⟩
theorem zEnv_K {n m q : Nat} {P O O2 : zSt} {S : Nat → zV} {cnt np nr : Nat} (h : zEnv n m q P O S cnt np nr) (hF : zFK O O2) : zEnv n m q P O2 S cnt np nr := by
  obtain ⟨h1, h2, h3, h4, h5, h6, h7, h8, h9, h10, h11, h12⟩ := h
  have fe := zFK_eq hF
  refine ⟨h1, fun a ha => ?_, ?_, ?_, ?_, h6, h7, ?_, ?_, fun p hp => ?_, fun p hp => ?_, fun a ha => ?_⟩
  · have := h2 a ha
    unfold zbA at this ⊢
    rw [hF.2.2.1 5 (by omega) (by omega)]; exact this
  · rw [hF.1 12 (by omega) (by omega)]; exact h3
  · unfold zbP; rw [hF.2.2.2 21 (by omega) (by omega), hF.2.2.2 22 (by omega) (by omega)]; exact h4
  · unfold zbR; rw [hF.2.2.2 23 (by omega) (by omega)]; exact h5
  · rw [hF.1 32 (by omega) (by omega)]; exact h8
  · rw [hF.1 33 (by omega) (by omega)]; exact h9
  · rw [fe.1]; exact h10 p hp
  · rw [fe.2.1]; exact h11 p hp
  · obtain ⟨c, hc⟩ := h12 a ha
    exact ⟨c, fun X => by rw [fe.2.2.1, fe.2.2.2]; exact hc X⟩
/-- one aim -/
theorem zaim_one {n m q : Nat} {P O : zSt} {S : Nat → zV} {cnt np nr a f : Nat} (hE : zEnv n m q P O S cnt np nr) (ha : a < q) (h36 : zgi O 36 = 111) {A A2 B : zV → Prop} (hL : zLf O np nr (fun p => A (zVp O p)) (fun p => A (zVr O p))) {s v : Int} (hs : 0 < s) (hst : ∀ X, zfeas S cnt X → A X → s * zev (zGo P q a) X ≤ v * X.2.2.2 ∧ (s * zev (zGo P q a) X = v * X.2.2.2 ↔ A2 X)) (hA2 : ∀ X, A2 X → A X) (hB : ∀ X, B X → A2 X) (hex : ∃ p, p < np ∧ B (zVp O p)) :
    ∃ O3, fX12_looks_52 (f + 1) O (zI a) = fX12_looks_52 f O3 (zI (a + 1)) ∧ zFK O O3 ∧ zgi O3 36 = 111 ∧ zgi O3 34 = zgi O 34 ∧ zLf O3 np nr (fun p => A2 (zVp O p)) (fun p => A2 (zVr O p)) ∧ (∀ b, b ≠ a → zgb O3 28 b = zgb O 28 b ∧ zgb O3 29 b = zgb O 29 b) ∧ ∀ X, zfeas S cnt X → 0 < X.2.2.2 → B X → zVal O a X O3 := by
  obtain ⟨h1, h2, h3, h4, h5, h6, h7, h8, h9, h10, h11, h12⟩ := hE
  have hq := h1.2.2.1
  obtain ⟨c, hc⟩ := h12 a ha
  have hG : zGo P q a = zGaim P a := by unfold zGo; rw [if_pos ⟨ha, by omega⟩]
  rw [hG] at hst
  have hstep : ∀ X, zfeas S cnt X → A X → s * (zsm O a * zev (zA0 O a) X) ≤ (v + s * c) * X.2.2.2 ∧ (s * (zsm O a * zev (zA0 O a) X) = (v + s * c) * X.2.2.2 ↔ A2 X) := by
    intro X hX hAX
    obtain ⟨g1, g2⟩ := hst X hX hAX
    rw [hc X] at g1 g2
    have e1 : s * (zsm O a * zev (zA0 O a) X - c * X.2.2.2) = s * (zsm O a * zev (zA0 O a) X) - s * c * X.2.2.2 := by rw [Int.mul_sub, Int.mul_assoc]
    have e2 : (v + s * c) * X.2.2.2 = v * X.2.2.2 + s * c * X.2.2.2 := Int.add_mul _ _ _
    rw [e1] at g1 g2
    rw [e2]
    refine ⟨by omega, ?_⟩
    rw [← g2]
    constructor <;> intro h <;> omega
  have ho : fX12_isOpenFor O (zI a) = some 0 := by
    obtain ⟨y, y1, y2⟩ := eX12_isOpenFor (show a < 3 by omega) (h2 a ha) h5 (by omega) h9
    rcases y2 with ⟨rfl, -⟩ | ⟨-, r, hr, hl, hpos⟩
    · exact y1
    · exfalso
      have hr2 := (hstep (zVr O r) (h11 r hr) ((hL.2 r hr).mp hl)).1
      have hw : (zVr O r).2.2.2 = 0 := rfl
      rw [hw, Int.mul_zero] at hr2
      have := Int.mul_pos hs hpos
      omega
  obtain ⟨q0, hq0, hqB⟩ := hex
  obtain ⟨O3, fd, k1, k2, k3, k4, k5, k6, k7, k8⟩ := eX12_looksAtAim (show a < 3 by omega) (h2 a ha) h4 h5 (by omega) (by omega) h8 h9 (A2 := fun p => A2 (zVp O p)) (R2 := fun p => A2 (zVr O p)) hL hs (v := v + s * c) (fun p hp hAp => hstep _ (h10 p hp) hAp) (fun p h => hA2 _ h) (fun p hp hRp => by
    have := (hstep _ (h11 p hp) hRp).2
    have hw : (zVr O p).2.2.2 = 0 := rfl
    rw [hw, Int.mul_zero] at this
    rw [← this]
    constructor
    · intro e; rw [e, Int.mul_zero]
    · intro e
      rcases Int.mul_eq_zero.mp e with h | h
      · omega
      · exact h) (fun p h => hA2 _ h) ⟨q0, hq0, hB _ hqB⟩
  refine ⟨O3, ?_, zFL_K k2, by rw [k2.1]; exact h36, k2.1 34, k3, k6, fun X hX hw hBX => ?_⟩
  · have hd : ((0 : Int32) = 0) := rfl
    rw [fX12_looks_52, h3, if_neg (by rw [zI_le (by omega) (by omega)]; omega), if_pos h36, ho, zbq, if_pos hd, k1, zbq]
    unfold fX12_looks_96
    rw [zlq, zn1, zI_add]
  · have e1 := (hstep X hX (hA2 _ (hB _ hBX))).2.mpr (hB _ hBX)
    have e2 := (hstep _ (h10 fd k4) (hA2 _ k5)).2.mpr k5
    have hwf : 0 < (zVp O fd).2.2.2 := (h4 fd k4).2.1
    have sg : zsm O a = 1 ∨ zsm O a = -1 := by
      rcases zsm_or O a with ⟨-, e⟩ | ⟨-, e⟩ <;> simp [e]
    have e3 := zval_eq hs sg hw hwf e1 e2
    unfold zVal
    rw [e3, k7, k8]
    exact ⟨rfl, rfl⟩
theorem zaims_path {n m q : Nat} {P : zSt} {S : Nat → zV} {cnt np nr : Nat} {B : zV → Prop} {rest : List Nat} : ∀ (d a f : Nat) (O : zSt) (A : zV → Prop), zEnv n m q P O S cnt np nr → a + d ≤ q → zgi O 36 = 111 → zLf O np nr (fun p => A (zVp O p)) (fun p => A (zVr O p)) → zPath S cnt (zGo P q) B (zlst a d ++ rest) A → (∃ p, p < np ∧ B (zVp O p)) →
    ∃ O3 A3, fX12_looks_52 (f + d) O (zI a) = fX12_looks_52 f O3 (zI (a + d)) ∧ zFK O O3 ∧ zgi O3 36 = 111 ∧ zgi O3 34 = zgi O 34 ∧ zLf O3 np nr (fun p => A3 (zVp O p)) (fun p => A3 (zVr O p)) ∧ zPath S cnt (zGo P q) B rest A3 ∧ (∀ b, b < a → zgb O3 28 b = zgb O 28 b ∧ zgb O3 29 b = zgb O 29 b) ∧ ∀ b, a ≤ b → b < a + d → ∀ X, zfeas S cnt X → 0 < X.2.2.2 → B X → zVal O b X O3
  | 0, a, f, O, A, hE, ha, h36, hL, hp, hex => ⟨O, A, rfl, zFK.refl O, h36, rfl, hL, hp, fun _ _ => ⟨rfl, rfl⟩, fun b h1 h2 => by omega⟩
  | d + 1, a, f, O, A, hE, ha, h36, hL, hp, hex => by
    obtain ⟨A2, ⟨s, v, hs, hst⟩, hA2, hp2⟩ := hp
    obtain ⟨O1, k1, k2, k3, k4, k5, k6, k7⟩ := zaim_one (f := f + d) hE (show a < q by omega) h36 hL hs hst hA2 (zPath_B _ _ hp2) hex
    have fe := zFK_eq k2
    have hex1 : ∃ p, p < np ∧ B (zVp O1 p) := by
      obtain ⟨p, h1, h2⟩ := hex
      exact ⟨p, h1, by rw [fe.1]; exact h2⟩
    have hL1 : zLf O1 np nr (fun p => A2 (zVp O1 p)) (fun p => A2 (zVr O1 p)) := by
      refine ⟨fun p hp => ?_, fun p hp => ?_⟩
      · show _ ↔ A2 (zVp O1 p)
        rw [fe.1]; exact k5.1 p hp
      · show _ ↔ A2 (zVr O1 p)
        rw [fe.2.1]; exact k5.2 p hp
    obtain ⟨O3, A3, g1, g2, g3, g4, g5, g6, g7, g8⟩ := zaims_path d (a + 1) f O1 A2 (zEnv_K hE k2) (by omega) k3 hL1 hp2 hex1
    refine ⟨O3, A3, ?_, k2.trans g2, g3, by rw [g4, k4], ⟨fun p hp => ?_, fun p hp => ?_⟩, g6, fun b hb => ⟨?_, ?_⟩, fun b h1 h2 X hX hw hBX => ?_⟩
    · rw [show f + (d + 1) = f + d + 1 by omega, k1, g1, show a + 1 + d = a + (d + 1) by omega]
    · have : zga O3 25 p ≠ 0 ↔ A3 (zVp O1 p) := g5.1 p hp
      rw [fe.1] at this
      exact this
    · have : zga O3 26 p ≠ 0 ↔ A3 (zVr O1 p) := g5.2 p hp
      rw [fe.2.1] at this
      exact this
    · rw [(g7 b (by omega)).1, (k6 b (by omega)).1]
    · rw [(g7 b (by omega)).2, (k6 b (by omega)).2]
    · by_cases c : b = a
      · subst c
        have h9 := k7 X hX hw hBX
        unfold zVal at h9 ⊢
        rw [(g7 b (by omega)).1, (g7 b (by omega)).2]
        exact h9
      · have h9 := g8 b (by omega) (by omega) X hX hw hBX
        unfold zVal at h9 ⊢
        rw [fe.2.2.1] at h9
        exact h9

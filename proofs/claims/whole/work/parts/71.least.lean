/-! 71: an aim looked at, as a step from face to face; the least point. -/
theorem zcancel {a b c : Int} (hc : 0 < c) (h : a * c = b * c) : a = b := Int.eq_of_mul_eq_mul_right (by omega) h
/-- the best of those that are left are those of the next face -/
theorem zstepeq {F w : Nat → Int} {s v : Int} (hs : 0 < s) {A A2 : Nat → Prop} {np fd : Nat} (hw : ∀ p, p < np → 0 < w p) (hA : ∀ p, p < np → A p → s * F p ≤ v * w p ∧ (s * F p = v * w p ↔ A2 p)) (hA2 : ∀ p, A2 p → A p) (hex : ∃ p, p < np ∧ A2 p) (hfd : fd < np) (hfA : A fd) (hmax : ∀ p, p < np → A p → F p * w fd ≤ F fd * w p) : A2 fd ∧ ∀ p, p < np → ((A p ∧ F p * w fd = F fd * w p) ↔ A2 p) := by
  obtain ⟨q, hq, hqA⟩ := hex
  have e1 := (hA q hq (hA2 q hqA)).2.mpr hqA
  have l1 := (hA fd hfd hfA).1
  have l2 := hmax q hq (hA2 q hqA)
  have m1 := Int.mul_le_mul_of_nonneg_left l2 (Int.le_of_lt hs)
  have m2 := Int.mul_le_mul_of_nonneg_right l1 (Int.le_of_lt (hw q hq))
  have e2 : s * F fd = v * w fd := by
    apply zcancel (hw q hq)
    have x1 : s * (F q * w fd) = v * w fd * w q := by
      rw [← Int.mul_assoc, e1]
      grind
    have x2 : s * (F fd * w q) = s * F fd * w q := by grind
    omega
  refine ⟨(hA fd hfd hfA).2.mp e2, fun p hp => ⟨fun ⟨h1, h2⟩ => (hA p hp h1).2.mp ?_, fun h => ⟨hA2 p h, ?_⟩⟩⟩
  · apply zcancel (hw fd hfd)
    have x1 : s * F p * w fd = s * (F p * w fd) := by grind
    rw [x1, h2]
    have x2 : s * (F fd * w p) = s * F fd * w p := by grind
    rw [x2, e2]
    grind
  · have e3 := (hA p hp (hA2 p h)).2.mpr h
    have x : s * (F p * w fd) = s * (F fd * w p) := by
      have x1 : s * (F p * w fd) = s * F p * w fd := by grind
      have x2 : s * (F fd * w p) = s * F fd * w p := by grind
      rw [x1, x2, e2, e3]
      grind
    exact Int.eq_of_mul_eq_mul_left (by omega) x
theorem eX12_looksAtAim {O : zSt} {a np nr : Nat} (ha : a < 3) (hbA : zbA O a) (hbP : zbP O np) (hbR : zbR O nr) (hnp : np ≤ 600) (hnr : nr ≤ 130) (h32 : zgi O 32 = zI np) (h33 : zgi O 33 = zI nr) {A A2 R R2 : Nat → Prop} (hL : zLf O np nr A R) {s v : Int} (hs : 0 < s) (hA : ∀ p, p < np → A p → s * zFn O a p ≤ v * zwp O p ∧ (s * zFn O a p = v * zwp O p ↔ A2 p)) (hA2 : ∀ p, A2 p → A p) (hR : ∀ p, p < nr → R p → (zsm O a * zev (zA0 O a) (zVr O p) = 0 ↔ R2 p)) (hR2 : ∀ p, R2 p → R p) (hex : ∃ p, p < np ∧ A2 p) :
    ∃ O3 fd, fX12_looksAtAim O (zI a) = some O3 ∧ zFL O O3 ∧ zLf O3 np nr A2 R2 ∧ fd < np ∧ A2 fd ∧ (∀ b, b ≠ a → zgb O3 28 b = zgb O 28 b ∧ zgb O3 29 b = zgb O 29 b) ∧ (zgb O3 28 a).toInt = (zlow (zev (zA0 O a) (zVp O fd)) (zwp O fd).toNat).1 ∧ (zgb O3 29 a).toInt = (zlow (zev (zA0 O a) (zVp O fd)) (zwp O fd).toNat).2 := by
  have hw : ∀ p, p < np → 0 < zwp O p := fun p hp => (hbP p hp).2.1
  obtain ⟨q, hq, hqA⟩ := hex
  obtain ⟨fd, f1, f2, f3, f4⟩ := zla_4 ha hbA hbP hnp h32 ⟨q, hq, (hL.1 q hq).mpr (hA2 q hqA)⟩ np 0 6000 (-1) (by omega) (by omega) (Or.inl ⟨rfl, fun p hp => by omega⟩)
  obtain ⟨g1, g2⟩ := zstepeq hs hw hA hA2 ⟨q, hq, hqA⟩ f1 ((hL.1 fd f1).mp f2) (fun p hp hAp => f3 p hp ((hL.1 p hp).mpr hAp))
  obtain ⟨O1, k1, k2, k3, k4, k5, k6⟩ := zla_47 ha hbA hbP hnp h32 f1 np 0 6000 O (by omega) (by omega) (zFL.refl O) (fun p hp => by rw [if_neg (by omega)]) rfl rfl rfl
  have fe := zFL_eq k1
  have bb := zFL_b k1 (a := a) (np := np) (nr := nr)
  obtain ⟨O3, m1, m2, m3, m4, m5, m6, m7⟩ := zla_95 ha (bb.1 hbA) (bb.2.1 hbP) (bb.2.2 hbR) hnp hnr (by rw [k1.1]; exact h33) f1 nr 0 6000 O1 (by omega) (by omega) (zFL.refl O1) (fun p hp => by rw [if_neg (by omega)]) rfl rfl rfl
  rw [fe.1, fe.2.2.1, fe.2.2.2.2.2] at m5 m6
  refine ⟨O3, fd, ?_, k1.trans m1, ⟨fun p hp => ?_, fun p hp => ?_⟩, f1, g1, fun b hb => ⟨?_, ?_⟩, m5, m6⟩
  · unfold fX12_looksAtAim
    rw [zn0, f4, k6, m7]
  · rw [m3, k2 p hp, ← g2 p hp, hL.1 p hp]
  · rw [m2 p hp, k3, fe.2.1, fe.2.2.1, fe.2.2.2.1, hL.2 p hp]
    exact ⟨fun ⟨h1, h2⟩ => (hR p hp h1).mp h2, fun h => ⟨hR2 p h, (hR p hp (hR2 p h)).mpr h⟩⟩
  · rw [(m4 b hb).1, k4]
  · rw [(m4 b hb).2, k5]
-- the least point
def zTn (O : zSt) (n p : Nat) : Int := -(zgb O 21 (3 * p + n)).toInt
/-- what findsLeast changes -/
def zFM (A B : zSt) : Prop := (∀ k, k ≠ 35 → zgi B k = zgi A k) ∧ (∀ k, zgl B k = zgl A k) ∧ (∀ k, k ≠ 25 → zga B k = zga A k) ∧ ∀ k, zgb B k = zgb A k
theorem zFM.refl (O : zSt) : zFM O O := ⟨fun _ _ => rfl, fun _ => rfl, fun _ _ => rfl, fun _ => rfl⟩
theorem zFM.trans {A B C : zSt} (h : zFM A B) (g : zFM B C) : zFM A C := ⟨fun k hk => (g.1 k hk).trans (h.1 k hk), fun k => (g.2.1 k).trans (h.2.1 k), fun k h1 => (g.2.2.1 k h1).trans (h.2.2.1 k h1), fun k => (g.2.2.2 k).trans (h.2.2.2 k)⟩
theorem zcmp64 {O : zSt} {n p t np : Nat} (hn : n < 3) (hbP : zbP O np) (hp : p < np) (ht : t < np) : (zgb O 21 (3 * p + n) * zgb O 22 t).toInt = -(zTn O n p * zwp O t) := by
  rw [z64mul ((hbP p hp).1 n hn) (hbP t ht).2.2 (by omega)]
  unfold zTn zwp
  rw [Int.neg_mul, Int.neg_neg]
section ZLEAST
variable {O : zSt} {n np : Nat}
theorem zle_14 (k2 : zSt → Int32 → Option zSt) (hn : n < 3) (hbP : zbP O np) (hnp : np ≤ 600) (h32 : zgi O 32 = zI np) (hex : ∃ p, p < np ∧ zga O 25 p ≠ 0) : ∀ (d k f : Nat) (O2 : zSt), k + d = np → d < f → zFM O O2 → zga O2 25 = zga O 25 → ((zgi O2 35 = -1 ∧ ∀ p, p < k → zga O 25 p = 0) ∨ ∃ fd, fd < k ∧ zgi O2 35 = zI fd ∧ zga O 25 fd ≠ 0 ∧ ∀ p, p < k → zga O 25 p ≠ 0 → zTn O n p * zwp O fd ≤ zTn O n fd * zwp O p) → ∃ O3 fd, zFM O O3 ∧ zga O3 25 = zga O 25 ∧ zgi O3 35 = zI fd ∧ fd < np ∧ zga O 25 fd ≠ 0 ∧ (∀ p, p < np → zga O 25 p ≠ 0 → zTn O n p * zwp O fd ≤ zTn O n fd * zwp O p) ∧ fX12_findsLeast_14 k2 f O2 (zI n) (zI k) = fX12_findsLeast_95 k2 6000 O3 (zI n) (zI 0)
  | 0, k, f + 1, O2, hk, hf, hF, h25, hx => by
    have hkn : k = np := by omega
    subst hkn
    rcases hx with ⟨-, h2⟩ | ⟨fd, h1, h2, h3, h4⟩
    · obtain ⟨p, hp, hne⟩ := hex
      exact absurd (h2 p hp) hne
    · refine ⟨O2, fd, hF, h25, h2, h1, h3, h4, ?_⟩
      rw [fX12_findsLeast_14, hF.1 32 (by omega), h32, if_pos (by rw [zI_le (by omega) (by omega)]; omega), zn0]
  | d + 1, k, f + 1, O2, hk, hf, hF, h25, hx => by
    have next : ∀ O4, zFM O O4 → zga O4 25 = zga O 25 → ((zgi O4 35 = -1 ∧ ∀ p, p < k + 1 → zga O 25 p = 0) ∨ ∃ fd, fd < k + 1 ∧ zgi O4 35 = zI fd ∧ zga O 25 fd ≠ 0 ∧ ∀ p, p < k + 1 → zga O 25 p ≠ 0 → zTn O n p * zwp O fd ≤ zTn O n fd * zwp O p) → ∃ O3 fd, zFM O O3 ∧ zga O3 25 = zga O 25 ∧ zgi O3 35 = zI fd ∧ fd < np ∧ zga O 25 fd ≠ 0 ∧ (∀ p, p < np → zga O 25 p ≠ 0 → zTn O n p * zwp O fd ≤ zTn O n fd * zwp O p) ∧ fX12_findsLeast_87 k2 (fX12_findsLeast_14 k2 f) O4 (zI n) (zI k) = fX12_findsLeast_95 k2 6000 O3 (zI n) (zI 0) := by
      intro O4 hF4 h254 h
      unfold fX12_findsLeast_87
      rw [zlq, zn1, zI_add]
      exact zle_14 k2 hn hbP hnp h32 hex d (k + 1) f O4 (by omega) (by omega) hF4 h254 h
    have hset : ∀ v : Int32, zFM O (zsi O2 35 v) := fun v => hF.trans ⟨fun k hk => gi_sin hk, fun _ => rfl, fun _ _ => rfl, fun _ => rfl⟩
    rw [fX12_findsLeast_14, hF.1 32 (by omega), h32, if_neg (by rw [zI_le (by omega) (by omega)]; omega), if_pos (zin_zI (by omega) (by omega)), zI_nat (by omega), h25]
    by_cases c : zga O 25 k = 0
    · rw [if_pos c]
      refine next O2 hF h25 ?_
      rcases hx with ⟨h1, h2⟩ | ⟨fd, h1, h2, h3, h4⟩
      · refine Or.inl ⟨h1, fun p hp => ?_⟩
        rcases Nat.lt_or_eq_of_le (Nat.le_of_lt_succ hp) with h | rfl
        · exact h2 p h
        · exact c
      · refine Or.inr ⟨fd, by omega, h2, h3, fun p hp hne => ?_⟩
        rcases Nat.lt_or_eq_of_le (Nat.le_of_lt_succ hp) with h | rfl
        · exact h4 p h hne
        · exact absurd c hne
    · rw [if_neg c]
      rcases hx with ⟨h1, h2⟩ | ⟨fd, h1, h2, h3, h4⟩
      · rw [h1, if_pos (by decide)]
        unfold fX12_findsLeast_82
        rw [zlq]
        refine next _ (hset _) (by rw [ga_si]; exact h25) (Or.inr ⟨k, by omega, gi_si, c, fun p hp hne => ?_⟩)
        rcases Nat.lt_or_eq_of_le (Nat.le_of_lt_succ hp) with h | rfl
        · exact absurd (h2 p h) hne
        · exact Int.le_refl _
      · rw [h2, if_neg (by rw [zn0, zI_lt (by omega) (by omega)]; omega), zn3, zI_mul, zI_add, if_pos (zin_zI (by omega) (by omega)), if_pos (zin_zI (by omega) (by omega)), zI_mul, zI_add, if_pos (zin_zI (by omega) (by omega)), if_pos (zin_zI (by omega) (by omega)), zI_nat (by omega), zI_nat (by omega), zI_nat (by omega), hF.2.2.2 21, hF.2.2.2 22]
        have e1 := zcmp64 hn hbP (show fd < np by omega) (show k < np by omega)
        have e2 := zcmp64 hn hbP (show k < np by omega) (show fd < np by omega)
        by_cases c2 : zgb O 21 (3 * fd + n) * zgb O 22 k ≤ zgb O 21 (3 * k + n) * zgb O 22 fd
        · rw [if_pos c2]
          rw [z64le, e1, e2] at c2
          refine next O2 hF h25 (Or.inr ⟨fd, by omega, h2, h3, fun p hp hne => ?_⟩)
          rcases Nat.lt_or_eq_of_le (Nat.le_of_lt_succ hp) with h | rfl
          · exact h4 p h hne
          · omega
        · rw [if_neg c2]
          rw [z64le, e1, e2] at c2
          unfold fX12_findsLeast_82
          rw [zlq]
          refine next _ (hset _) (by rw [ga_si]; exact h25) (Or.inr ⟨k, by omega, gi_si, c, fun p hp hne => ?_⟩)
          rcases Nat.lt_or_eq_of_le (Nat.le_of_lt_succ hp) with h | rfl
          · exact zfle_trans (h4 p h hne) (by omega) (hbP p (by omega)).2.1 (hbP fd (by omega)).2.1 (hbP k (by omega)).2.1
          · exact Int.le_refl _
theorem zle_95 (k2 : zSt → Int32 → Option zSt) (hn : n < 3) (hbP : zbP O np) (hnp : np ≤ 600) (h32 : zgi O 32 = zI np) {fd : Nat} (hfd : fd < np) (h35 : zgi O 35 = zI fd) : ∀ (d k f : Nat) (O2 : zSt), k + d = np → d < f → (∀ k, zgi O2 k = zgi O k) → (∀ k, zgl O2 k = zgl O k) → (∀ k, k ≠ 25 → zga O2 k = zga O k) → (∀ k, zgb O2 k = zgb O k) → (∀ p, p < np → (zga O2 25 p ≠ 0 ↔ if p < k then (zga O 25 p ≠ 0 ∧ zTn O n p * zwp O fd = zTn O n fd * zwp O p) else zga O 25 p ≠ 0)) → ∃ O3, (∀ k, zgi O3 k = zgi O k) ∧ (∀ k, zgl O3 k = zgl O k) ∧ (∀ k, k ≠ 25 → zga O3 k = zga O k) ∧ (∀ k, zgb O3 k = zgb O k) ∧ (∀ p, p < np → (zga O3 25 p ≠ 0 ↔ (zga O 25 p ≠ 0 ∧ zTn O n p * zwp O fd = zTn O n fd * zwp O p))) ∧ fX12_findsLeast_95 k2 f O2 (zI n) (zI k) = k2 O3 (zI (n + 1))
  | 0, k, f + 1, O2, hk, hf, q1, q2, q3, q4, h25 => by
    refine ⟨O2, q1, q2, q3, q4, fun p hp => by rw [h25 p hp, if_pos (by omega)], ?_⟩
    rw [fX12_findsLeast_95, q1, h32, if_pos (by rw [zI_le (by omega) (by omega)]; omega), zlq, zn1, zI_add]
  | d + 1, k, f + 1, O2, hk, hf, q1, q2, q3, q4, h25 => by
    have next : ∀ (b : Int32), (b = 1 ∨ b = 0) → (b ≠ 0 ↔ (zga O 25 k ≠ 0 ∧ zTn O n k * zwp O fd = zTn O n fd * zwp O k)) → ∃ O3, (∀ k, zgi O3 k = zgi O k) ∧ (∀ k, zgl O3 k = zgl O k) ∧ (∀ k, k ≠ 25 → zga O3 k = zga O k) ∧ (∀ k, zgb O3 k = zgb O k) ∧ (∀ p, p < np → (zga O3 25 p ≠ 0 ↔ (zga O 25 p ≠ 0 ∧ zTn O n p * zwp O fd = zTn O n fd * zwp O p))) ∧ fX12_findsLeast_166 k2 (fX12_findsLeast_95 k2 f) O2 (zI n) (zI k) (zI k) b = k2 O3 (zI (n + 1)) := by
      intro b hb1 hb2
      have hnar : vp_nar .boolean b = b := by rcases hb1 with rfl | rfl <;> decide
      unfold fX12_findsLeast_166
      rw [if_pos (zin_zI (by omega) (by omega)), zlq, zlq, zI_nat (by omega), hnar, zn1, zI_add]
      refine zle_95 k2 hn hbP hnp h32 hfd h35 d (k + 1) f _ (by omega) (by omega) q1 q2 (fun k hk => by rw [ga_san hk]; exact q3 k hk) q4 (fun p hp => ?_)
      rw [ga_sa]
      by_cases cp : p = k
      · subst cp
        rw [upd_s rfl, if_pos (by omega)]
        exact hb2
      · rw [upd_n cp, h25 p hp]
        by_cases c3 : p < k
        · rw [if_pos c3, if_pos (by omega)]
        · rw [if_neg c3, if_neg (by omega)]
    have hk25 := h25 k (by omega)
    rw [if_neg (by omega)] at hk25
    rw [fX12_findsLeast_95, q1, h32, if_neg (by rw [zI_le (by omega) (by omega)]; omega), if_pos (zin_zI (by omega) (by omega)), zI_nat (by omega)]
    by_cases c : zga O2 25 k = 0
    · rw [if_pos c]
      unfold fX12_findsLeast_165
      exact next 0 (Or.inr rfl) ⟨fun h => absurd rfl h, fun h => absurd c (hk25.mpr h.1)⟩
    · rw [if_neg c, q1, h35, zn3, zI_mul, zI_add, if_pos (zin_zI (by omega) (by omega)), if_pos (zin_zI (by omega) (by omega)), zI_mul, zI_add, if_pos (zin_zI (by omega) (by omega)), if_pos (zin_zI (by omega) (by omega)), zI_nat (by omega), zI_nat (by omega), zI_nat (by omega), q4 21, q4 22]
      have e1 := zcmp64 hn hbP (show fd < np by omega) (show k < np by omega)
      have e2 := zcmp64 hn hbP (show k < np by omega) (show fd < np by omega)
      by_cases c2 : zgb O 21 (3 * k + n) * zgb O 22 fd = zgb O 21 (3 * fd + n) * zgb O 22 k
      · rw [if_pos c2]
        rw [z64eq, e1, e2] at c2
        exact next 1 (Or.inl rfl) ⟨fun _ => ⟨hk25.mp c, by omega⟩, fun _ => by decide⟩
      · rw [if_neg c2]
        rw [z64eq, e1, e2] at c2
        unfold fX12_findsLeast_165
        exact next 0 (Or.inr rfl) ⟨fun h => absurd rfl h, fun h => absurd (by omega) c2⟩
theorem zle_one (f : Nat) (hn : n < 3) (hbP : zbP O np) (hnp : np ≤ 600) (h32 : zgi O 32 = zI np) {A A2 : Nat → Prop} (hL : ∀ p, p < np → (zga O 25 p ≠ 0 ↔ A p)) {s v : Int} (hs : 0 < s) (hA : ∀ p, p < np → A p → s * zTn O n p ≤ v * zwp O p ∧ (s * zTn O n p = v * zwp O p ↔ A2 p)) (hA2 : ∀ p, A2 p → A p) (hex : ∃ p, p < np ∧ A2 p) :
    ∃ O3 fd, fX12_findsLeast_2 (f + 1) O (zI n) = fX12_findsLeast_2 f O3 (zI (n + 1)) ∧ zFM O O3 ∧ (∀ p, p < np → (zga O3 25 p ≠ 0 ↔ A2 p)) ∧ fd < np ∧ A2 fd ∧ zgi O3 35 = zI fd := by
  have hw : ∀ p, p < np → 0 < zwp O p := fun p hp => (hbP p hp).2.1
  obtain ⟨q, hq, hqA⟩ := hex
  have hF0 : zFM O (zsi O 35 (-1)) := ⟨fun k hk => gi_sin hk, fun _ => rfl, fun _ _ => rfl, fun _ => rfl⟩
  obtain ⟨O1, fd, g1, g2, g3, g4, g5, g6, g7⟩ := zle_14 (fX12_findsLeast_2 f) hn hbP hnp h32 ⟨q, hq, (hL q hq).mpr (hA2 q hqA)⟩ np 0 6000 (zsi O 35 (-1)) (by omega) (by omega) hF0 rfl (Or.inl ⟨gi_si, fun p hp => by omega⟩)
  obtain ⟨h1, h2⟩ := zstepeq hs hw hA hA2 ⟨q, hq, hqA⟩ g4 ((hL fd g4).mp g5) (fun p hp hAp => g6 p hp ((hL p hp).mpr hAp))
  have hbP1 : zbP O1 np := by unfold zbP; rw [g1.2.2.2 21, g1.2.2.2 22]; exact hbP
  have eT : ∀ p, zTn O1 n p = zTn O n p := fun p => by unfold zTn; rw [g1.2.2.2 21]
  have eW : ∀ p, zwp O1 p = zwp O p := fun p => by unfold zwp; rw [g1.2.2.2 22]
  obtain ⟨O3, q1, q2, q3, q4, q5, q6⟩ := zle_95 (fX12_findsLeast_2 f) hn hbP1 hnp (by rw [g1.1 32 (by omega)]; exact h32) g4 g3 np 0 6000 O1 (by omega) (by omega) (fun _ => rfl) (fun _ => rfl) (fun _ _ => rfl) (fun _ => rfl) (fun p hp => by rw [if_neg (by omega)])
  refine ⟨O3, fd, ?_, ⟨fun k hk => by rw [q1, g1.1 k hk], fun k => by rw [q2, g1.2.1 k], fun k hk => by rw [q3 k hk, g1.2.2.1 k hk], fun k => by rw [q4, g1.2.2.2 k]⟩, fun p hp => ?_, g4, h1, by rw [q1, g3]⟩
  · rw [fX12_findsLeast_2, if_neg (by rw [zn3, zI_le (by omega) (by omega)]; omega), zlq, zn0, g7, q6]
  · rw [q5 p hp, eT, eT, eW, eW, g2, ← h2 p hp, hL p hp]
end ZLEAST

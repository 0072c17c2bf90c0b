/-! 70: the reference looks at an aim: the best points that are left stay. -/
def zFn (O : zSt) (a p : Nat) : Int := zsm O a * zev (zA0 O a) (zVp O p)
def zwp (O : zSt) (p : Nat) : Int := (zgb O 22 p).toInt
/-- what looksAtAim changes -/
def zFL (A B : zSt) : Prop := (∀ k, zgi B k = zgi A k) ∧ (∀ k, zgl B k = zgl A k) ∧ (∀ k, k ≠ 25 → k ≠ 26 → zga B k = zga A k) ∧ ∀ k, k ≠ 28 → k ≠ 29 → zgb B k = zgb A k
theorem zFL.refl (O : zSt) : zFL O O := ⟨fun _ => rfl, fun _ => rfl, fun _ _ _ => rfl, fun _ _ _ => rfl⟩
theorem zFL.trans {A B C : zSt} (h : zFL A B) (g : zFL B C) : zFL A C := ⟨fun k => (g.1 k).trans (h.1 k), fun k => (g.2.1 k).trans (h.2.1 k), fun k h1 h2 => (g.2.2.1 k h1 h2).trans (h.2.2.1 k h1 h2), fun k h1 h2 => (g.2.2.2 k h1 h2).trans (h.2.2.2 k h1 h2)⟩
theorem zFL_eq {A B : zSt} (h : zFL A B) : (∀ p, zVp B p = zVp A p) ∧ (∀ p, zVr B p = zVr A p) ∧ (∀ a, zA0 B a = zA0 A a) ∧ (∀ a, zsm B a = zsm A a) ∧ (∀ a p, zFn B a p = zFn A a p) ∧ ∀ p, zwp B p = zwp A p := by
  have h1 : ∀ p, zVp B p = zVp A p := fun p => by unfold zVp; rw [h.2.2.2 21 (by omega) (by omega), h.2.2.2 22 (by omega) (by omega)]
  have h2 : ∀ p, zVr B p = zVr A p := fun p => by unfold zVr; rw [h.2.2.2 23 (by omega) (by omega)]
  have h3 : ∀ a, zA0 B a = zA0 A a := fun a => by unfold zA0; rw [h.2.2.1 5 (by omega) (by omega)]
  have h4 : ∀ a, zsm B a = zsm A a := fun a => by unfold zsm; rw [h.2.2.1 7 (by omega) (by omega)]
  refine ⟨h1, h2, h3, h4, fun a p => by unfold zFn; rw [h1, h3, h4], fun p => by unfold zwp; rw [h.2.2.2 22 (by omega) (by omega)]⟩
theorem zFL_b {A B : zSt} (h : zFL A B) {a np nr : Nat} : (zbA A a → zbA B a) ∧ (zbP A np → zbP B np) ∧ (zbR A nr → zbR B nr) := by
  refine ⟨fun g => ?_, fun g => ?_, fun g => ?_⟩
  · unfold zbA; rw [h.2.2.1 5 (by omega) (by omega)]; exact g
  · unfold zbP; rw [h.2.2.2 21 (by omega) (by omega), h.2.2.2 22 (by omega) (by omega)]; exact g
  · unfold zbR; rw [h.2.2.2 23 (by omega) (by omega)]; exact g
theorem eX12_bet {O : zSt} {a p t np : Nat} (ha : a < 3) (hbA : zbA O a) (hbP : zbP O np) (hp : p < np) (ht : t < np) (hnp : np ≤ 600) : ∃ d, fX12_better O (zI a) (zI p) (zI t) = some d ∧ d.toInt = zFn O a p * zwp O t - zFn O a t * zwp O p := by
  obtain ⟨d, f1, f2⟩ := eX12_better ha hbA hbP hp ht hnp
  refine ⟨d, f1, ?_⟩
  rw [f2]
  unfold zFn zwp zVp
  simp only []
  generalize zsm O a = s
  generalize zev (zA0 O a) ((zgb O 21 (3 * p)).toInt, (zgb O 21 (3 * p + 1)).toInt, (zgb O 21 (3 * p + 2)).toInt, (zgb O 22 p).toInt) = x
  generalize zev (zA0 O a) ((zgb O 21 (3 * t)).toInt, (zgb O 21 (3 * t + 1)).toInt, (zgb O 21 (3 * t + 2)).toInt, (zgb O 22 t).toInt) = y
  generalize (zgb O 22 t).toInt = w
  generalize (zgb O 22 p).toInt = v
  grind
section ZAIM
variable {O : zSt} {a np nr : Nat}
theorem zla_4 (ha : a < 3) (hbA : zbA O a) (hbP : zbP O np) (hnp : np ≤ 600) (h32 : zgi O 32 = zI np) (hex : ∃ p, p < np ∧ zga O 25 p ≠ 0) : ∀ (d k f : Nat) (x : Int32), k + d = np → d < f → ((x = -1 ∧ ∀ p, p < k → zga O 25 p = 0) ∨ ∃ fd, fd < k ∧ x = zI fd ∧ zga O 25 fd ≠ 0 ∧ ∀ p, p < k → zga O 25 p ≠ 0 → zFn O a p * zwp O fd ≤ zFn O a fd * zwp O p) → ∃ fd, fd < np ∧ zga O 25 fd ≠ 0 ∧ (∀ p, p < np → zga O 25 p ≠ 0 → zFn O a p * zwp O fd ≤ zFn O a fd * zwp O p) ∧ fX12_looksAtAim_4 f O (zI a) x (zI k) = fX12_looksAtAim_47 6000 O (zI a) (zI fd) (zI 0)
  | 0, k, f + 1, x, hk, hf, hx => by
    have hkn : k = np := by omega
    subst hkn
    rcases hx with ⟨-, h2⟩ | ⟨fd, h1, h2, h3, h4⟩
    · obtain ⟨p, hp, hne⟩ := hex
      exact absurd (h2 p hp) hne
    · refine ⟨fd, h1, h3, h4, ?_⟩
      rw [fX12_looksAtAim_4, h32, if_pos (by rw [zI_le (by omega) (by omega)]; omega), h2, zn0]
  | d + 1, k, f + 1, x, hk, hf, hx => by
    have next : ∀ x2, ((x2 = -1 ∧ ∀ p, p < k + 1 → zga O 25 p = 0) ∨ ∃ fd, fd < k + 1 ∧ x2 = zI fd ∧ zga O 25 fd ≠ 0 ∧ ∀ p, p < k + 1 → zga O 25 p ≠ 0 → zFn O a p * zwp O fd ≤ zFn O a fd * zwp O p) → ∃ fd, fd < np ∧ zga O 25 fd ≠ 0 ∧ (∀ p, p < np → zga O 25 p ≠ 0 → zFn O a p * zwp O fd ≤ zFn O a fd * zwp O p) ∧ fX12_looksAtAim_39 (fX12_looksAtAim_4 f) O (zI a) x2 (zI k) = fX12_looksAtAim_47 6000 O (zI a) (zI fd) (zI 0) := by
      intro x2 h
      unfold fX12_looksAtAim_39
      rw [zlq, zn1, zI_add]
      exact zla_4 ha hbA hbP hnp h32 hex d (k + 1) f x2 (by omega) (by omega) h
    rw [fX12_looksAtAim_4, h32, if_neg (by rw [zI_le (by omega) (by omega)]; omega), if_pos (zin_zI (by omega) (by omega)), zI_nat (by omega)]
    by_cases c : zga O 25 k = 0
    · rw [if_pos c]
      refine next x ?_
      rcases hx with ⟨h1, h2⟩ | ⟨fd, h1, h2, h3, h4⟩
      · refine Or.inl ⟨h1, fun p hp => ?_⟩
        rcases Nat.lt_or_eq_of_le (Nat.le_of_lt_succ hp) with h | rfl
        · exact h2 p h
        · exact c
      · refine Or.inr ⟨fd, by omega, h2, h3, fun p hp hne => ?_⟩
        rcases Nat.lt_or_eq_of_le (Nat.le_of_lt_succ hp) with h | rfl
        · exact h4 p h hne
        · exact absurd c hne
    · rw [if_neg c]
      rcases hx with ⟨h1, h2⟩ | ⟨fd, h1, h2, h3, h4⟩
      · subst h1
        rw [if_pos (by decide)]
        unfold fX12_looksAtAim_37
        refine next (zI k) (Or.inr ⟨k, by omega, rfl, c, fun p hp hne => ?_⟩)
        rcases Nat.lt_or_eq_of_le (Nat.le_of_lt_succ hp) with h | rfl
        · exact absurd (h2 p h) hne
        · exact Int.le_refl _
      · subst h2
        obtain ⟨g, g1, g2⟩ := eX12_bet ha hbA hbP (show k < np by omega) (show fd < np by omega) hnp
        rw [if_neg (by rw [zn0, zI_lt (by omega) (by omega)]; omega), g1, zbq]
        by_cases c2 : g ≤ (0 : Int64)
        · rw [if_pos c2]
          rw [z64le, g2, z64_0] at c2
          refine next (zI fd) (Or.inr ⟨fd, by omega, rfl, h3, fun p hp hne => ?_⟩)
          rcases Nat.lt_or_eq_of_le (Nat.le_of_lt_succ hp) with h | rfl
          · exact h4 p h hne
          · omega
        · rw [if_neg c2]
          rw [z64le, g2, z64_0] at c2
          unfold fX12_looksAtAim_37
          refine next (zI k) (Or.inr ⟨k, by omega, rfl, c, fun p hp hne => ?_⟩)
          rcases Nat.lt_or_eq_of_le (Nat.le_of_lt_succ hp) with h | rfl
          · exact zfle_trans (h4 p h hne) (by omega) (hbP p (by omega)).2.1 (hbP fd (by omega)).2.1 (hbP k (by omega)).2.1
          · exact Int.le_refl _
theorem zla_47 (ha : a < 3) (hbA : zbA O a) (hbP : zbP O np) (hnp : np ≤ 600) (h32 : zgi O 32 = zI np) {fd : Nat} (hfd : fd < np) : ∀ (d k f : Nat) (O2 : zSt), k + d = np → d < f → zFL O O2 → (∀ p, p < np → (zga O2 25 p ≠ 0 ↔ if p < k then (zga O 25 p ≠ 0 ∧ zFn O a p * zwp O fd = zFn O a fd * zwp O p) else zga O 25 p ≠ 0)) → zga O2 26 = zga O 26 → zgb O2 28 = zgb O 28 → zgb O2 29 = zgb O 29 → ∃ O3, zFL O O3 ∧ (∀ p, p < np → (zga O3 25 p ≠ 0 ↔ (zga O 25 p ≠ 0 ∧ zFn O a p * zwp O fd = zFn O a fd * zwp O p))) ∧ zga O3 26 = zga O 26 ∧ zgb O3 28 = zgb O 28 ∧ zgb O3 29 = zgb O 29 ∧ fX12_looksAtAim_47 f O2 (zI a) (zI fd) (zI k) = fX12_looksAtAim_95 6000 O3 (zI a) (zI fd) (zI 0)
  | 0, k, f + 1, O2, hk, hf, hF, h25, h26, h28, h29 => by
    refine ⟨O2, hF, fun p hp => ?_, h26, h28, h29, ?_⟩
    · rw [h25 p hp, if_pos (by omega)]
    · rw [fX12_looksAtAim_47, hF.1, h32, if_pos (by rw [zI_le (by omega) (by omega)]; omega), zn0]
  | d + 1, k, f + 1, O2, hk, hf, hF, h25, h26, h28, h29 => by
    have fe := zFL_eq hF
    have next : ∀ (b : Int32), (b = 1 ∨ b = 0) → (b ≠ 0 ↔ (zga O 25 k ≠ 0 ∧ zFn O a k * zwp O fd = zFn O a fd * zwp O k)) → ∃ O3, zFL O O3 ∧ (∀ p, p < np → (zga O3 25 p ≠ 0 ↔ (zga O 25 p ≠ 0 ∧ zFn O a p * zwp O fd = zFn O a fd * zwp O p))) ∧ zga O3 26 = zga O 26 ∧ zgb O3 28 = zgb O 28 ∧ zgb O3 29 = zgb O 29 ∧ fX12_looksAtAim_86 (fX12_looksAtAim_47 f) O2 (zI a) (zI fd) (zI k) (zI k) b = fX12_looksAtAim_95 6000 O3 (zI a) (zI fd) (zI 0) := by
      intro b hb1 hb2
      have hnar : vp_nar .boolean b = b := by rcases hb1 with rfl | rfl <;> decide
      unfold fX12_looksAtAim_86
      rw [if_pos (zin_zI (by omega) (by omega)), zlq, zlq, zI_nat (by omega), hnar, zn1, zI_add]
      refine zla_47 ha hbA hbP hnp h32 hfd d (k + 1) f _ (by omega) (by omega) (hF.trans ⟨fun _ => rfl, fun _ => rfl, fun k h1 h2 => by rw [ga_san h1], fun _ _ _ => rfl⟩) (fun p hp => ?_) (by rw [ga_san (by omega)]; exact h26) h28 h29
      rw [ga_sa]
      by_cases cp : p = k
      · subst cp
        rw [upd_s rfl, if_pos (by omega)]
        exact hb2
      · rw [upd_n cp, h25 p hp]
        by_cases c3 : p < k
        · rw [if_pos c3, if_pos (by omega)]
        · rw [if_neg c3, if_neg (by omega)]
    have hk25 := h25 k (by omega)
    rw [if_neg (by omega)] at hk25
    rw [fX12_looksAtAim_47, hF.1, h32, if_neg (by rw [zI_le (by omega) (by omega)]; omega), if_pos (zin_zI (by omega) (by omega)), zI_nat (by omega)]
    by_cases c : zga O2 25 k = 0
    · rw [if_pos c]
      unfold fX12_looksAtAim_85
      exact next 0 (Or.inr rfl) ⟨fun h => absurd rfl h, fun h => absurd c (hk25.mpr h.1)⟩
    · rw [if_neg c]
      obtain ⟨g, g1, g2⟩ := eX12_bet (O := O2) (a := a) ha ((zFL_b hF (np := np) (nr := 0)).1 hbA) ((zFL_b hF (a := a) (nr := 0)).2.1 hbP) (show k < np by omega) hfd hnp
      rw [fe.2.2.2.2.1, fe.2.2.2.2.1, fe.2.2.2.2.2, fe.2.2.2.2.2] at g2
      rw [g1, zbq]
      by_cases c2 : g = (0 : Int64)
      · rw [if_pos c2]
        rw [z64eq, g2, z64_0] at c2
        exact next 1 (Or.inl rfl) ⟨fun _ => ⟨hk25.mp c, by omega⟩, fun _ => by decide⟩
      · rw [if_neg c2]
        rw [z64eq, g2, z64_0] at c2
        unfold fX12_looksAtAim_85
        exact next 0 (Or.inr rfl) ⟨fun h => absurd rfl h, fun h => absurd (by omega) c2⟩
theorem zexdiv {t : Int64} {T : Int} {g : Int64} {b : Nat} (ht : t.toInt = T) (hb : zab T 637729200) (hg : g.toInt = ((Nat.gcd T.natAbs b : Nat) : Int)) : (t / g).toInt = T / ((Nat.gcd T.natAbs b : Nat) : Int) := by
  rw [z64div (A := 637729200) (by rw [ht]; exact hb) (by omega), ht, hg]
  apply Int.tdiv_eq_ediv_of_dvd
  exact Int.ofNat_dvd_left.mpr (Nat.gcd_dvd_left _ _)
theorem zla_95 (ha : a < 3) (hbA : zbA O a) (hbP : zbP O np) (hbR : zbR O nr) (hnp : np ≤ 600) (hnr : nr ≤ 130) (h33 : zgi O 33 = zI nr) {fd : Nat} (hfd : fd < np) : ∀ (d k f : Nat) (O2 : zSt), k + d = nr → d < f → zFL O O2 → (∀ p, p < nr → (zga O2 26 p ≠ 0 ↔ if p < k then (zga O 26 p ≠ 0 ∧ zsm O a * zev (zA0 O a) (zVr O p) = 0) else zga O 26 p ≠ 0)) → zga O2 25 = zga O 25 → zgb O2 28 = zgb O 28 → zgb O2 29 = zgb O 29 → ∃ O3, zFL O O3 ∧ (∀ p, p < nr → (zga O3 26 p ≠ 0 ↔ (zga O 26 p ≠ 0 ∧ zsm O a * zev (zA0 O a) (zVr O p) = 0))) ∧ zga O3 25 = zga O 25 ∧ (∀ b, b ≠ a → zgb O3 28 b = zgb O 28 b ∧ zgb O3 29 b = zgb O 29 b) ∧ (zgb O3 28 a).toInt = (zlow (zev (zA0 O a) (zVp O fd)) (zwp O fd).toNat).1 ∧ (zgb O3 29 a).toInt = (zlow (zev (zA0 O a) (zVp O fd)) (zwp O fd).toNat).2 ∧ fX12_looksAtAim_95 f O2 (zI a) (zI fd) (zI k) = some O3
  | 0, k, f + 1, O2, hk, hf, hF, h26, h25, h28, h29 => by
    have fe := zFL_eq hF
    obtain ⟨t, t1, t2, t3⟩ := eX12_top (O := O2) (a := a) ha ((zFL_b hF (np := np) (nr := nr)).1 hbA) ((zFL_b hF (a := a) (nr := nr)).2.1 hbP) hfd hnp
    rw [fe.1, fe.2.2.1] at t2
    have hw := (hbP fd hfd).2
    have e22 : zgb O2 22 = zgb O 22 := hF.2.2.2 22 (by omega) (by omega)
    have hb : (zgb O2 22 fd).toInt = (((zwp O fd).toNat : Nat) : Int) := by
      rw [e22]
      unfold zwp
      omega
    obtain ⟨g, g1, g2⟩ := eX12_divisor t3 (by omega) hb
    have hg0 : 0 < Nat.gcd t.toInt.natAbs (zwp O fd).toNat := Nat.gcd_pos_of_pos_right _ (by unfold zwp; omega)
    have gne : ¬ g = 0 := by
      rw [z64eq, g2, z64_0]
      omega
    have d1 := zexdiv t2 (by rw [← t2]; exact t3) (by rw [g2, t2])
    have d2 : (zgb O2 22 fd / g).toInt = (((zwp O fd).toNat / Nat.gcd t.toInt.natAbs (zwp O fd).toNat : Nat) : Int) := by
      rw [z64div (A := 4374) (by rw [e22]; exact hw.2) (by omega), hb, g2, Int.ofNat_tdiv]
    rw [fX12_looksAtAim_95, hF.1, h33, if_pos (by rw [zI_le (by omega) (by omega)]; omega), t1, zbq, if_pos (zin_zI (by omega) (by omega)), zI_nat (by omega), g1, zbq, zbq, if_neg gne, if_pos (zin_zI ha (by omega)), zlq, if_pos (zin_zI (by omega) (by omega)), if_neg gne, if_pos (zin_zI ha (by omega)), zlq, zI_nat (by omega)]
    refine ⟨zsb (zsb O2 28 (vp_updL (zgb O2 28) a (t / g))) 29 (vp_updL (zgb (zsb O2 28 (vp_updL (zgb O2 28) a (t / g))) 29) a (zgb (zsb O2 28 (vp_updL (zgb O2 28) a (t / g))) 22 fd / g)), hF.trans ⟨fun _ => rfl, fun _ => rfl, fun _ _ _ => rfl, fun k h1 h2 => by rw [gb_sbn h2, gb_sbn h1]⟩, fun p hp => ?_, h25, fun b hba => ⟨?_, ?_⟩, ?_, ?_, rfl⟩
    · rw [ga_sb, ga_sb, h26 p hp, if_pos (by omega)]
    · rw [gb_sbn (by omega), gb_sb, updL_n hba, h28]
    · rw [gb_sb, updL_n hba, gb_sbn (by omega), h29]
    · rw [gb_sbn (by omega), gb_sb, updL_s rfl, d1]
      rfl
    · rw [gb_sb, updL_s rfl, gb_sbn (by omega), d2, t2]
      rfl
  | d + 1, k, f + 1, O2, hk, hf, hF, h26, h25, h28, h29 => by
    have fe := zFL_eq hF
    have next : ∀ (b : Int32), (b = 1 ∨ b = 0) → (b ≠ 0 ↔ (zga O 26 k ≠ 0 ∧ zsm O a * zev (zA0 O a) (zVr O k) = 0)) → ∃ O3, zFL O O3 ∧ (∀ p, p < nr → (zga O3 26 p ≠ 0 ↔ (zga O 26 p ≠ 0 ∧ zsm O a * zev (zA0 O a) (zVr O p) = 0))) ∧ zga O3 25 = zga O 25 ∧ (∀ b, b ≠ a → zgb O3 28 b = zgb O 28 b ∧ zgb O3 29 b = zgb O 29 b) ∧ (zgb O3 28 a).toInt = (zlow (zev (zA0 O a) (zVp O fd)) (zwp O fd).toNat).1 ∧ (zgb O3 29 a).toInt = (zlow (zev (zA0 O a) (zVp O fd)) (zwp O fd).toNat).2 ∧ fX12_looksAtAim_133 (fX12_looksAtAim_95 f) O2 (zI a) (zI fd) (zI k) (zI k) b = some O3 := by
      intro b hb1 hb2
      have hnar : vp_nar .boolean b = b := by rcases hb1 with rfl | rfl <;> decide
      unfold fX12_looksAtAim_133
      rw [if_pos (zin_zI (by omega) (by omega)), zlq, zlq, zI_nat (by omega), hnar, zn1, zI_add]
      refine zla_95 ha hbA hbP hbR hnp hnr h33 hfd d (k + 1) f _ (by omega) (by omega) (hF.trans ⟨fun _ => rfl, fun _ => rfl, fun k h1 h2 => by rw [ga_san h2], fun _ _ _ => rfl⟩) (fun p hp => ?_) (by rw [ga_san (by omega)]; exact h25) h28 h29
      rw [ga_sa]
      by_cases cp : p = k
      · subst cp
        rw [upd_s rfl, if_pos (by omega)]
        exact hb2
      · rw [upd_n cp, h26 p hp]
        by_cases c3 : p < k
        · rw [if_pos c3, if_pos (by omega)]
        · rw [if_neg c3, if_neg (by omega)]
    have hk26 := h26 k (by omega)
    rw [if_neg (by omega)] at hk26
    rw [fX12_looksAtAim_95, hF.1, h33, if_neg (by rw [zI_le (by omega) (by omega)]; omega), if_pos (zin_zI (by omega) (by omega)), zI_nat (by omega)]
    by_cases c : zga O2 26 k = 0
    · rw [if_pos c]
      unfold fX12_looksAtAim_132
      exact next 0 (Or.inr rfl) ⟨fun h => absurd rfl h, fun h => absurd c (hk26.mpr h.1)⟩
    · rw [if_neg c]
      obtain ⟨g, g1, g2⟩ := eX12_gain (O := O2) (a := a) ha ((zFL_b hF (np := np) (nr := nr)).1 hbA) ((zFL_b hF (a := a) (np := np)).2.2 hbR) (show k < nr by omega) hnr
      rw [fe.2.1, fe.2.2.1, fe.2.2.2.1] at g2
      rw [g1, zbq]
      by_cases c2 : g = (0 : Int64)
      · rw [if_pos c2]
        rw [z64eq, g2, z64_0] at c2
        exact next 1 (Or.inl rfl) ⟨fun _ => ⟨hk26.mp c, c2⟩, fun _ => by decide⟩
      · rw [if_neg c2]
        rw [z64eq, g2, z64_0] at c2
        unfold fX12_looksAtAim_132
        exact next 0 (Or.inr rfl) ⟨fun h => absurd rfl h, fun h => absurd h.2 c2⟩
end ZAIM

/-! 9a: tight bounds; a kept point is broken, is the best. -/
section ZTB
variable {n m q fd np : Nat} {P O : zSt}
theorem zmulw2 {c : Int32} {t : Int64} {w : Int} (hc : zab c.toInt 100) (ht : t.toInt = w) (hw : zab w 23619600) : (c.toInt64 * t).toInt = c.toInt * w := by
  have h1 : zab c.toInt64.toInt 100 := by rw [z32_64]; exact hc
  have h2 : zab t.toInt 23619600 := by rw [ht]; exact hw
  rw [z64mul h1 h2 (by omega), z32_64, ht]
theorem ztt_34 {X : zV} (hP : zPw n m q P) (hR : zRl n m q P O) (hB : zBp O fd np) (hX : 0 < X.2.2.2) (hs : zSame (zVp O fd) X) (base : Nat) : ∀ (d i f : Nat), i + d = n → d < f → fX12_tight_34 f O (zI (base + (zcnt (ztL P X) i + zcnt (ztG P X) i))) (zI i) = some (zI (base + (zcnt (ztL P X) n + zcnt (ztG P X) n)), O)
  | 0, i, f + 1, hi, hf => by
    have e : i = n := by omega
    subst e
    rw [fX12_tight_34, hR.1, if_pos (Int32.le_refl _)]
  | d + 1, i, f + 1, hi, hf => by
    have hn := hP.1
    have hi3 : i < 3 := by omega
    have hfd := hB.2.1
    have hnp := hB.2.2.1
    have hbd := zBp_bd hB
    obtain ⟨l0, l1⟩ := zbnd hP hi3
    have a0 := (hR.2.2.2.1 i hi3).1
    have a1 := (hR.2.2.2.1 i hi3).2
    have e0 := zmulw2 (t := zgb O 22 fd) l0 rfl (zBd_w hbd)
    have e1 := zmulw2 (t := zgb O 22 fd) l1 rfl (zBd_w hbd)
    have top := zVp_co O fd hi3
    have s0 := zsame_co hs hbd.2.1 hX hi3 (zga P 0 i).toInt
    have s1 := zsame_co hs hbd.2.1 hX hi3 (zga P 1 i).toInt
    have ew : (zVp O fd).2.2.2 = (zgb O 22 fd).toInt := rfl
    rw [ew] at s0 s1
    have ih := ztt_34 hP hR hB hX hs base d (i + 1) f (by omega) (by omega)
    have es : zcnt (ztL P X) (i + 1) + zcnt (ztG P X) (i + 1) = zcnt (ztL P X) i + zcnt (ztG P X) i + (if ztL P X i then 1 else 0) + if ztG P X i then 1 else 0 := by
      show (zcnt (ztL P X) i + if ztL P X i then 1 else 0) + (zcnt (ztG P X) i + if ztG P X i then 1 else 0) = _
      omega
    rw [es] at ih
    have z0 : ∀ a : Nat, zI a + (0 : Int32) = zI a := fun a => Int32.add_zero _
    have second : ∀ x : Nat, ∀ y1 : Nat, y1 ≤ 1 → fX12_tight_82 (fX12_tight_34 f) O (zI i) (zI x) (zI y1) = fX12_tight_34 f O (zI (x + y1 + if ztG P X i then 1 else 0)) (zI (i + 1)) := by
      intro x y1 _
      unfold fX12_tight_82 fX12_tight_134 fX12_tight_135
      rw [zlq, if_pos (zin_zI hi3 (by omega)), zI_nat (by omega), a1, hB.1]
      by_cases c : (100 : Int32) ≤ zga P 1 i
      · have d2 : 100 ≤ (zga P 1 i).toInt := by rw [z32le] at c; exact c
        rw [if_pos c, zlq, zlq, zI_succ, zI_add, z0]
        rw [show ztG P X i = false by unfold ztG; rw [decide_eq_false (by omega)]; rfl]
        rfl
      · have d2 : (zga P 1 i).toInt < 100 := by
          rw [z32le] at c
          have : (100 : Int32).toInt = 100 := by decide
          omega
        rw [if_neg c]
        rw [show (3 : Int32) * zI fd + zI i = zI (3 * fd + i) by rw [zn3, zI_mul, zI_add], if_pos (zin_zI (by omega) (by omega)), if_pos (zin_zI hi3 (by omega)), if_pos (zin_zI (by omega) (by omega)), zI_nat (by omega), zI_nat (by omega)]
        by_cases e : zco (zVp O fd) i = (zga P 1 i).toInt * (zgb O 22 fd).toInt
        · rw [if_pos (by rw [z64eq, e1, top]; exact e), zlq, zlq, zI_succ, zI_add, zI_succ]
          rw [show ztG P X i = true by unfold ztG; rw [decide_eq_true d2, decide_eq_true (s1.mp e)]; rfl]
          rfl
        · rw [if_neg (by rw [z64eq, e1, top]; exact e), zlq, zlq, zI_succ, zI_add, z0]
          rw [show ztG P X i = false by unfold ztG; rw [decide_eq_false (fun h => e (s1.mpr h)), Bool.and_false]]
          rfl
    rw [fX12_tight_34, hR.1, if_neg (by rw [zI_le (by omega) (by omega)]; omega), hB.1, show (3 : Int32) * zI fd + zI i = zI (3 * fd + i) by rw [zn3, zI_mul, zI_add], if_pos (zin_zI (by omega) (by omega)), if_pos (zin_zI hi3 (by omega)), if_pos (zin_zI (by omega) (by omega)), zI_nat (by omega), zI_nat (by omega), zI_nat (by omega), a0]
    by_cases c : zco (zVp O fd) i = (zga P 0 i).toInt * (zgb O 22 fd).toInt
    · rw [if_pos (by rw [z64eq, e0, top]; exact c), show (1 : Int32) = zI 1 from rfl, second _ 1 (by omega)]
      rw [show ztL P X i = true by unfold ztL; exact decide_eq_true (s0.mp c)] at ih
      rw [← ih]
      congr 2
      rw [if_pos rfl]
      omega
    · rw [if_neg (by rw [z64eq, e0, top]; exact c), show (0 : Int32) = zI 0 from rfl, second _ 0 (by omega)]
      rw [show ztL P X i = false by unfold ztL; exact decide_eq_false (fun h => c (s0.mpr h))] at ih
      rw [← ih]
      congr 2
      rw [if_neg (show ¬ false = true by decide)]
      omega
/-- a snapshot of the reference: the point Y -/
def zSnR (O : zSt) (k : Nat) (Y : zV) : Prop := (zgb O 38 k).toInt = Y.2.2.2 ∧ ∀ i, i < 3 → (zgb O 37 (3 * k + i)).toInt = zco Y i
theorem zisb_step {k c f : Nat} {Y : zV} (hB : zBp O fd np) (hk : k < 4) (hS : zSnR O k Y) (hY : zBd Y) (hc : c < 3) : fX12_isBest_2 O (f + 1) (zI k) (zI c) = if zco (zVp O fd) c * Y.2.2.2 = zco Y c * (zVp O fd).2.2.2 then fX12_isBest_2 O f (zI k) (zI (c + 1)) else some 0 := by
  have hfd := hB.2.1
  have hnp := hB.2.2.1
  have hbd := zBp_bd hB
  have m1 := zcross (a := zgb O 21 (3 * fd + c)) (b := zgb O 38 k) (by rw [zVp_co O fd hc]; exact hbd.1 c hc) (by rw [hS.1]; exact zBd_w hY)
  have m2 := zcross (a := zgb O 37 (3 * k + c)) (b := zgb O 22 fd) (by rw [hS.2 c hc]; exact hY.1 c hc) (zBd_w hbd)
  rw [zVp_co O fd hc, hS.1] at m1
  rw [hS.2 c hc] at m2
  rw [fX12_isBest_2, if_neg (by rw [zn3, zI_le (by omega) (by omega)]; omega), hB.1, show (3 : Int32) * zI fd + zI c = zI (3 * fd + c) by rw [zn3, zI_mul, zI_add], show (3 : Int32) * zI k + zI c = zI (3 * k + c) by rw [zn3, zI_mul, zI_add], if_pos (zin_zI (by omega) (by omega)), if_pos (zin_zI hk (by omega)), if_pos (zin_zI (by omega) (by omega)), if_pos (zin_zI (by omega) (by omega)), zI_nat (by omega), zI_nat (by omega), zI_nat (by omega), zI_nat (by omega)]
  by_cases e : zco (zVp O fd) c * Y.2.2.2 = zco Y c * (zVp O fd).2.2.2
  · rw [if_pos e, if_pos (by rw [z64eq, m1, m2]; exact e), zlq, zI_succ]
  · rw [if_neg e, if_neg (by rw [z64eq, m1, m2]; exact e)]
theorem zisb_f {k f : Nat} {Y : zV} (hB : zBp O fd np) (hk : k < 4) (hS : zSnR O k Y) (hY : zBd Y) : ∃ b, fX12_isBest_2 O (f + 4) (zI k) (zI 0) = some b ∧ (b ≠ 0 ↔ zSame (zVp O fd) Y) := by
  rw [zisb_step hB hk hS hY (by omega)]
  by_cases c0 : zco (zVp O fd) 0 * Y.2.2.2 = zco Y 0 * (zVp O fd).2.2.2
  · rw [if_pos c0, zisb_step hB hk hS hY (by omega)]
    by_cases c1 : zco (zVp O fd) (0 + 1) * Y.2.2.2 = zco Y (0 + 1) * (zVp O fd).2.2.2
    · rw [if_pos c1, zisb_step hB hk hS hY (by omega)]
      by_cases c2 : zco (zVp O fd) (0 + 1 + 1) * Y.2.2.2 = zco Y (0 + 1 + 1) * (zVp O fd).2.2.2
      · rw [if_pos c2, fX12_isBest_2, if_pos (by rw [zn3, zI_le (by omega) (by omega)]; omega)]
        exact ⟨1, rfl, fun _ i hi => by
          rcases zlt3 hi with rfl | rfl | rfl
          · exact c0
          · exact c1
          · exact c2, fun _ => by decide⟩
      · rw [if_neg c2]
        exact ⟨0, rfl, fun h => absurd rfl h, fun h => absurd (h 2 (by omega)) c2⟩
    · rw [if_neg c1]
      exact ⟨0, rfl, fun h => absurd rfl h, fun h => absurd (h 1 (by omega)) c1⟩
  · rw [if_neg c0]
    exact ⟨0, rfl, fun h => absurd rfl h, fun h => absurd (h 0 (by omega)) c0⟩
theorem eX12_isBest {k : Nat} {Y : zV} (hB : zBp O fd np) (hk : k < 4) (hS : zSnR O k Y) (hY : zBd Y) : ∃ b, fX12_isBest O (zI k) = some b ∧ (b ≠ 0 ↔ zSame (zVp O fd) Y) := by
  unfold fX12_isBest
  rw [zn0]
  exact zisb_f (f := 5996) hB hk hS hY
end ZTB

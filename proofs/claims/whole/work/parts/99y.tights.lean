/-! 9y: isTight, tight, isProved, conflict, tightShare. -/
section ZTIGHTS
variable {n m q : Nat} {P C W sS D Q B Z E H O R K G F : zSt}
theorem zBest_9 {X : zV} {O2 : zSt} {c : Int32} (h : zBest n q O Q X O2) : zBest n q O Q X (zsi O2 9 c) := by
  obtain ⟨a, b, c2, d, fd, np, e, f⟩ := h
  exact ⟨a, b, c2, d, fd, np, zBp_9 e, f⟩
theorem zcall_isTight (hP : zPw n m q P) (hR : zRl n m q P O) (hJ : zJc n m q K P W sS D Q B Z E H) (x : Int32) : ∃ r v W2 s2 D2 Q2 O2, fX11_isTight C P W sS D Q x = some (r, W2, s2, D2, Q2) ∧ fX12_isTight O x = some (v, O2) ∧ zAg [("java/lang/IndexOutOfBoundsException", 1), ("java/lang/IllegalStateException", 2), ("java/util/NoSuchElementException", 3)] r v (zgi O2 9) ∧ (v = 0 ∨ v = 1) ∧ zFc O O2 ∧ zJc n m q K P W2 s2 D2 Q2 B Z E H := by
  have hm := hP.2.1
  obtain ⟨W2, s2, D2, Q2, O2, X, f1, g1, g2, j, h10, hR2, -, hb⟩ := zdemandBest (C := C) hP hR hJ
  have fr : ∀ c : Int32, zFc O (zsi O2 9 c) := fun c => (zFc_k g2).trans zFc_9
  have fr2 : ∀ c d : Int32, zFc O (zsi (zsi O2 9 c) 9 d) := fun c d => (fr c).trans zFc_9
  unfold fX11_isTight fX11_isTight_32 fX12_isTight fX12_isTight_35 fX12_isTight_38 fX12_isTight_57 fX12_isTight_58
  rw [g1, zbq]
  simp only [znb0, znb1, if_true]
  by_cases c : zix m x
  · obtain ⟨r, hr, rfl⟩ := zix_ex (by omega) c
    rw [eX11_demandLiveRow hP hr, zbq, eX12_wrongRow hP hR2 hr, zbq]
    by_cases c5 : zga P 5 r = 0
    · rw [if_pos c5, if_pos c5]
      simp only [Sum.elim_inl, zlq, gi_si]
      rw [if_neg (show ¬ (2 : Int32) = 0 by decide)]
      exact ⟨_, _, _, _, _, _, _, rfl, rfl, Or.inr ⟨_, rfl, by rw [gi_si]; simp⟩, Or.inl rfl, fr 2, hJ⟩
    · rw [if_neg c5, if_neg c5]
      simp only [Sum.elim_inr, zlq, gi_si, if_true]
      rw [f1, zbq, gi_sin (by omega), if_neg (show ¬ (3 : Int32) = 0 by decide)]
      rcases hb with ⟨h5, h36, hX, hQ, -, hv, fd, np, hB, hS⟩ | ⟨h5, h36⟩
      · rw [if_pos h5, if_pos h36]
        simp only [Sum.elim_inr]
        rw [eX5_sideOf hP hr hQ hX, zbq, eX12_isRowTight hP (zRl_i (zRl_i hR2 (by omega)) (by omega)) (zBp_9 (zBp_9 hB)) hr, zbq]
        have e0 : zev (zrc P r) (zVp (zsi (zsi O2 9 0) 9 0) fd) = 0 ↔ zev (zrc P r) X = 0 := zsame_0 hS (zBp_bd hB).2.1 hX.2.1 _
        by_cases ce : zev (zrc P r) X = 0
        · rw [if_pos (zsgn_0.mpr ce), if_pos (e0.mpr ce), if_neg (show ¬ (1 : Int32) = 0 by decide)]
          exact ⟨_, _, _, _, _, _, _, rfl, rfl, Or.inl ⟨rfl, by rw [gi_si]⟩, Or.inr rfl, fr2 0 0, j⟩
        · rw [if_neg (fun h => ce (zsgn_0.mp h)), if_neg (fun h => ce (e0.mp h)), if_pos rfl]
          exact ⟨_, _, _, _, _, _, _, rfl, rfl, Or.inl ⟨rfl, by rw [gi_si]⟩, Or.inl rfl, fr2 0 0, j⟩
      · rw [if_neg h5, if_neg h36]
        simp only [Sum.elim_inl]
        exact ⟨_, _, _, _, _, _, _, rfl, rfl, Or.inr ⟨_, rfl, by rw [gi_si]; simp⟩, Or.inl rfl, fr2 0 3, j⟩
  · rw [eX11_demandLiveRow_no hP c, zbq, eX12_wrongRow_no hP hR2 c, zbq]
    simp only [Sum.elim_inl, zlq, gi_si]
    rw [if_neg (show ¬ (1 : Int32) = 0 by decide)]
    exact ⟨_, _, _, _, _, _, _, rfl, rfl, Or.inr ⟨_, rfl, by rw [gi_si]; simp⟩, Or.inl rfl, fr 1, hJ⟩
theorem zcall_tight (hP : zPw n m q P) (hR : zRl n m q P O) (hJ : zJc n m q K P W sS D Q B Z E H) : ∃ r v W2 s2 D2 Q2 O2, fX11_tight C P W sS D Q = some (r, W2, s2, D2, Q2) ∧ fX12_tight O = some (v, O2) ∧ zAg [("java/util/NoSuchElementException", 1)] r v (zgi O2 9) ∧ zFc O O2 ∧ zJc n m q K P W2 s2 D2 Q2 B Z E H := by
  have hm := hP.2.1
  have hn := hP.1
  obtain ⟨W2, s2, D2, Q2, O2, X, f1, g1, g2, j, h10, hR2, -, hb⟩ := zdemandBest (C := C) hP hR hJ
  have fr : ∀ c : Int32, zFc O (zsi O2 9 c) := fun c => (zFc_k g2).trans zFc_9
  unfold fX11_tight fX12_tight fX12_tight_19
  rw [f1, zbq, g1, zbq, eX12_checked, eX12_checked, zbq, zbq, if_pos (show (0 : Int32) = 0 from rfl), if_neg (show ¬ (1 : Int32) = 0 by decide), if_neg (show ¬ (1 : Int32) ≤ 0 by decide), if_pos (show (0 : Int32) ≤ 0 by decide)]
  rcases hb with ⟨h5, h36, hX, hQ, -, hv, fd, np, hB, hS⟩ | ⟨h5, h36⟩
  · rw [if_pos h5, if_pos h36]
    simp only [Sum.elim_inr]
    rw [eX5_tightRows hP hQ hX, zbq, eX5_tightBounds hP hQ hX, zbq, eX12_tightRows hP (zRl_i hR2 (by omega)) (zBp_9 hB) hX.2.1 hS, zbq, zI_add]
    have t := ztt_34 hP (zRl_i (v := 0) (k := 9) hR2 (by omega)) (zBp_9 (c := 0) hB) hX.2.1 hS (zcnt (ztR P X) m) n 0 6000 (by omega) (by omega)
    rw [show zcnt (ztR P X) m + (zcnt (ztL P X) 0 + zcnt (ztG P X) 0) = zcnt (ztR P X) m from rfl, ← zn0] at t
    rw [t]
    exact ⟨_, _, _, _, _, _, _, rfl, rfl, Or.inl ⟨rfl, by rw [gi_si]⟩, fr 0, j⟩
  · rw [if_neg h5, if_neg h36]
    simp only [Sum.elim_inl]
    exact ⟨_, _, _, _, _, _, _, rfl, rfl, Or.inr ⟨_, rfl, by rw [gi_si]; simp⟩, fr 1, j⟩
theorem zcall_isProved (hP : zPw n m q P) (hR : zRl n m q P O) (hJ : zJc n m q K P W sS D Q B Z E H) : ∃ W2 s2 D2 Q2 F2, fX11_isProved C P W sS D Q F = some (1, W2, s2, D2, Q2, F2) ∧ fX12_isProved O = some (1, zsi O 9 0) ∧ zJc n m q K P W2 s2 D2 Q2 B Z E H := by
  have hq := hP.2.2.1
  obtain ⟨W2, s2, D2, Q2, o, ins, O2, f1, -, -, f2, -, j, -, -⟩ := zsees hP hR hJ
  unfold fX11_isProved fX11_isProved_27 fX11_isProved_32 fX12_isProved
  rw [f1, zbq, zlq, hP.2.2.2.2.2.1, if_pos znb1]
  by_cases c : q = 0
  · rw [if_pos (show zI q = 0 by rw [c]; rfl)]
    exact ⟨_, _, _, _, _, rfl, rfl, j⟩
  · obtain ⟨F2, e⟩ := eX6_isSound (F := F) hP (by omega) f2
    rw [if_neg (show ¬ zI q = 0 by rw [zn0, zI_eq (by omega) (by omega)]; exact c), e, zbq, if_neg (show ¬ (1 : Int32) = 0 by decide), if_pos znb1]
    exact ⟨_, _, _, _, _, rfl, rfl, j⟩
theorem zcall_conflict {V sV dV : zSt} (hP : zPw n m q P) (hR : zRl n m q P O) (hJ : zJc n m q K P W sS D Q B Z E H) : ∃ r v W2 s2 D2 Q2 V2 sV2 dV2 O2, fX11_conflict C P W sS D Q V sV dV = some (r, W2, s2, D2, Q2, V2, sV2, dV2) ∧ fX12_conflict O = some (v, O2) ∧ zAg [("java/lang/IllegalStateException", 1)] r v (zgi O2 9) ∧ zFc O O2 ∧ zJc n m q K P W2 s2 D2 Q2 B Z E H := by
  have hm := hP.2.1
  obtain ⟨W2, s2, D2, Q2, o, ins, O2, f1, g1, g2, f2, g3, j, -, hR2⟩ := zsees hP hR hJ
  have h3 := zAns_3 g3
  have fr : ∀ c : Int32, zFc O (zsi O2 9 c) := fun c => (zFc_k g2).trans zFc_9
  unfold fX11_conflict fX12_conflict fX12_conflict_19
  rw [f1, zbq, g1, zbq, eX12_checked, eX12_checked, zbq, zbq, if_pos (show (0 : Int32) = 0 from rfl), if_neg (show ¬ (1 : Int32) = 0 by decide), if_neg (show ¬ (1 : Int32) ≤ 0 by decide), if_pos (show (0 : Int32) ≤ 0 by decide)]
  by_cases c : zgi W2 5 = 105
  · have c2 : zgi O2 36 = 105 := by
      rcases h3 with ⟨a, b⟩ | ⟨a, b⟩ | ⟨a, b⟩
      · rw [a] at c; exact absurd c (by decide)
      · rw [a] at c; exact absurd c (by decide)
      · exact b
    have hR3 := zRl_i (k := 9) (v := 0) hR2 (by omega)
    rw [if_pos c, if_pos c2, eX12_allLeft hm hR3.2.1, zbq]
    obtain ⟨v, T2, sT2, dT2, O3, k1, k2, k3⟩ := zcf_loop (C := C) (W := W2) (s := s2) (D := D2) (Q := Q2) hP m 0 6000 6000 V sV dV (zsi O2 9 0) (fun _ => false) (fun _ => false) (fun r => decide (zga (zsi O2 9 0) 6 r = 0)) (by omega) (by omega) (by omega) hR3 (fun i hi => by
      have := (hR3.2.2.2.2.1 i hi).2.2.2
      by_cases e : zga (zsi O2 9 0) 6 i = 0
      · rw [decide_eq_true e, decide_eq_true (this.mp e)]; rfl
      · rw [decide_eq_false e, decide_eq_false (fun h => e (this.mpr h))]; rfl) (fun i hi => by omega) (fun i _ => rfl) (fun i _ => rfl)
    rw [zbits_none, ← zn0] at k1
    rw [← zn0] at k2
    rw [k1, k2]
    exact ⟨_, _, _, _, _, _, _, _, _, _, rfl, rfl, Or.inl ⟨rfl, by rw [k3.1 9 (by omega), gi_si]⟩, (fr 0).trans (zFc_k k3), j⟩
  · have c2 : ¬ zgi O2 36 = 105 := by
      rcases h3 with ⟨a, b⟩ | ⟨a, b⟩ | ⟨a, b⟩
      · rw [b]; decide
      · rw [b]; decide
      · exact absurd a c
    rw [if_neg c, if_neg c2]
    exact ⟨_, _, _, _, _, _, _, _, _, _, rfl, rfl, Or.inr ⟨_, rfl, by rw [gi_si]; simp⟩, fr 1, j⟩
theorem zfn_all : ∀ a b : Nat, a < 7 → b < 7 → 0 < b → zfn (FP.fdiv (FP.i2f (zI a)) (FP.i2f (zI b))) = true := by
  have h : ∀ a, a < 7 → ∀ b, b < 7 → 0 < b → zfn (FP.fdiv (FP.i2f (zI a)) (FP.i2f (zI b))) = true := by decide
  exact fun a b h1 h2 h3 => h a h1 b h2 h3
theorem zcnt_le {f g : Nat → Bool} (h : ∀ r, f r = true → g r = true) : ∀ m, zcnt f m ≤ zcnt g m
  | 0 => Nat.le_refl _
  | m + 1 => by
    have ih := zcnt_le h m
    by_cases c : f m = true
    · rw [zcnt_t c, zcnt_t (h m c)]; omega
    · rw [zcnt_f (by simpa using c)]
      by_cases c2 : g m = true
      · rw [zcnt_t c2]; omega
      · rw [zcnt_f (by simpa using c2)]; exact ih
theorem zcnt_lv (P : zSt) : ∀ m, zcnt (fun r => decide (zga P 5 r ≠ 0)) m = zlv P m
  | 0 => rfl
  | m + 1 => by
    have s2 : zlv P (m + 1) = zlv P m + if zga P 5 m = 0 then 0 else 1 := rfl
    by_cases c : zga P 5 m = 0
    · rw [zcnt_f (by simp [c]), s2, if_pos c, zcnt_lv P m]; rfl
    · rw [zcnt_t (by simp [c]), s2, if_neg c, zcnt_lv P m]
theorem ztR_lv (P : zSt) (X : zV) (m : Nat) : zcnt (ztR P X) m ≤ zlv P m := by
  rw [← zcnt_lv P m]
  apply zcnt_le
  intro r h
  unfold ztR at h
  exact (Bool.and_eq_true_iff.mp h).1
/-- a share as a double: no NaN, and it is as great as itself -/
def zfok (v : UInt32) : Bool := decide (FP.f2d v &&& 0x7fffffffffffffff ≤ 0x7ff0000000000000) && decide (Op.cmpValue (FP.dcmp (FP.f2d v) (FP.f2d v)) .l = 0)
theorem zfok_0 : zfok 0 = true := by decide +kernel
theorem zfok_all : ∀ a b : Nat, a < 7 → b < 7 → 0 < b → zfok (FP.fdiv (FP.i2f (zI a)) (FP.i2f (zI b))) = true := by
  have h : ∀ a, a < 7 → ∀ b, b < 7 → 0 < b → zfok (FP.fdiv (FP.i2f (zI a)) (FP.i2f (zI b))) = true := by decide +kernel
  exact fun a b h1 h2 h3 => h a h1 b h2 h3
theorem zcall_tightShare (hP : zPw n m q P) (hR : zRl n m q P O) (hJ : zJc n m q K P W sS D Q B Z E H) : ∃ r v W2 s2 D2 Q2 O2, fX11_tightShare C P W sS D Q = some (r, W2, s2, D2, Q2) ∧ fX12_tightShare O = some (v, O2) ∧ zAg [("java/util/NoSuchElementException", 1)] r v (zgi O2 9) ∧ zfok v = true ∧ zFc O O2 ∧ zJc n m q K P W2 s2 D2 Q2 B Z E H := by
  have hm := hP.2.1
  obtain ⟨W2, s2, D2, Q2, O2, X, f1, g1, g2, j, h10, hR2, -, hb⟩ := zdemandBest (C := C) hP hR hJ
  have fr : ∀ c : Int32, zFc O (zsi O2 9 c) := fun c => (zFc_k g2).trans zFc_9
  have hl := hP.2.2.2.2.2.2.1
  unfold fX11_tightShare fX12_tightShare fX12_tightShare_25 fX12_tightShare_26 fX12_tightShare_47
  rw [f1, zbq, g1, zbq, eX12_checked, eX12_checked, zbq, zbq, if_pos (show (0 : Int32) = 0 from rfl), if_neg (show ¬ (1 : Int32) = 0 by decide), if_neg (show ¬ (1 : Int32) ≤ 0 by decide), if_pos (show (0 : Int32) ≤ 0 by decide)]
  rcases hb with ⟨h5, h36, hX, hQ, -, hv, fd, np, hB, hS⟩ | ⟨h5, h36⟩
  · rw [if_pos h5, if_pos h36]
    simp only [Sum.elim_inr]
    rw [eX12_leftRows hP hR2, zbq, hl.1]
    by_cases c : zlv P m = 0
    · rw [if_neg (show ¬ 0 < zI (zlv P m) by rw [c]; decide), if_pos (show zI (zlv P m) ≤ 0 by rw [c]; decide)]
      exact ⟨_, _, _, _, _, _, _, rfl, rfl, Or.inr ⟨_, rfl, by rw [gi_si]; simp⟩, zfok_0, fr 1, j⟩
    · have hc := ztR_lv P X m
      have hzo := zfok_all (zcnt (ztR P X) m) (zlv P m) (by omega) (by omega) (by omega)
      have hz := zfn_all (zcnt (ztR P X) m) (zlv P m) (by omega) (by omega) (by omega)
      rw [if_pos (show 0 < zI (zlv P m) by rw [zn0, zI_lt (by omega) (by omega)]; omega), if_neg (show ¬ zI (zlv P m) ≤ 0 by rw [zn0, zI_le (by omega) (by omega)]; omega), eX5_tightRows hP hQ hX, zbq, eX12_tightRows hP (zRl_i hR2 (by omega)) (zBp_9 hB) hX.2.1 hS, zbq, eX12_leftRows hP (zRl_i hR2 (by omega)), zbq, if_pos hz, if_pos hz]
      exact ⟨_, _, _, _, _, _, _, rfl, rfl, Or.inl ⟨rfl, by rw [gi_si]⟩, hzo, fr 0, j⟩
  · rw [if_neg h5, if_neg h36]
    simp only [Sum.elim_inl]
    exact ⟨_, _, _, _, _, _, _, rfl, rfl, Or.inr ⟨_, rfl, by rw [gi_si]; simp⟩, zfok_0, fr 1, j⟩
end ZTIGHTS

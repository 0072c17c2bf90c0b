/-! 72: the class's program and the reference's; sides and planes say the same. -/
def zRl (n m q : Nat) (P O : zSt) : Prop :=
  zgi O 10 = zI n ∧ zgi O 11 = zI m ∧ zgi O 12 = zI q ∧ (∀ i, i < 3 → zga O 0 i = zga P 0 i ∧ zga O 1 i = zga P 1 i) ∧
  (∀ r, r < m → (∀ i, i < 3 → zga O 2 (3 * r + i) = zga P 2 (r * 3 + i)) ∧ ((zga P 3 r = 60 ∧ zga O 3 r = zI 0) ∨ (zga P 3 r = 62 ∧ zga O 3 r = zI 1) ∨ (zga P 3 r = 61 ∧ zga O 3 r = zI 2)) ∧ zga O 4 r = zga P 4 r ∧ (zga O 6 r = 0 ↔ zga P 5 r ≠ 0)) ∧
  (∀ a, a < q → (∀ i, i < 3 → zga O 5 (3 * a + i) = zga P 6 (a * 3 + i)) ∧ ((zga P 7 a = 1 ∧ zga O 7 a ≠ 0) ∨ (zga P 7 a = -1 ∧ zga O 7 a = 0))) ∧ ∀ r, m ≤ r → r < 12 → zga O 6 r = 0
theorem zRl_ow {n m q : Nat} {P O : zSt} (hP : zPw n m q P) (h : zRl n m q P O) : zOw2 n m O := by
  obtain ⟨h1, h2, h3, h4, h5, h6, h7⟩ := h
  refine ⟨hP.1, hP.2.1, h1, h2, fun i hi => ?_, fun r hr => ⟨fun i hi => ?_, ?_, ?_⟩⟩
  · have hb := hP.2.2.2.2.2.2.2.1 i hi
    rw [(h4 i hi).1, (h4 i hi).2]
    exact ⟨zab_of (by omega) (by omega), zab_of (by omega) (by omega)⟩
  · rw [(h5 r hr).1 i hi]
    exact ((hP.2.2.2.2.2.2.2.2.2.1 r hr).1 i hi).1
  · rcases (h5 r hr).2.1 with ⟨-, e⟩ | ⟨-, e⟩ | ⟨-, e⟩
    · exact Or.inl e
    · exact Or.inr (Or.inl e)
    · exact Or.inr (Or.inr e)
  · rw [(h5 r hr).2.2.1]
    exact (hP.2.2.2.2.2.2.2.2.2.1 r hr).2.2
theorem zRl_bA {n m q a : Nat} {P O : zSt} (hP : zPw n m q P) (h : zRl n m q P O) (ha : a < q) : zbA O a := by
  intro i hi
  rw [(h.2.2.2.2.2.1 a ha).1 i hi]
  exact ((hP.2.2.2.2.2.2.2.2.2.2.1 a ha).1 i hi).1
/-- the rows that both look at -/
def zSm (m : Nat) (P O : zSt) (y2 y3 x1 x2 : Int32) : Prop := ∀ r, r < m → (zgat P y2 r ↔ zbt x1 r) ∧ (zgat P y2 r → (zrnum P y3 r).toInt = zRn O x2 r)
theorem zGa_mem {P : zSt} {y2 y3 : Int32} {n m : Nat} {v : zV × Bool} : v ∈ zGa P y2 y3 n m ↔ v ∈ zLL P ∨ (∃ r, r < m ∧ zgat P y2 r ∧ v ∈ zRS P (zrnum P y3 r) r) ∨ ∃ i, i < n ∧ ¬ (100 : Int32) ≤ zga P 1 i ∧ v = ((if i = 0 then -1 else 0, if i = 1 then -1 else 0, if i = 2 then -1 else 0, (zga P 1 i).toInt), false) := by
  unfold zGa
  rw [List.mem_append, List.mem_append, zRL_mem, zBL_mem]
  constructor
  · rintro ((h | h) | h)
    · exact Or.inl h
    · exact Or.inr (Or.inl h)
    · exact Or.inr (Or.inr h)
  · rintro (h | h | h)
    · exact Or.inl (Or.inl h)
    · exact Or.inl (Or.inr h)
    · exact Or.inr h
theorem zLL_mem {P : zSt} {v : zV × Bool} : v ∈ zLL P ↔ ∃ i, i < 3 ∧ v = (zEp i (zga P 0 i).toInt, false) := by
  unfold zLL
  constructor
  · intro h
    rcases List.mem_cons.mp h with h | h
    · exact ⟨0, by omega, h⟩
    · rcases List.mem_cons.mp h with h | h
      · exact ⟨1, by omega, h⟩
      · rcases List.mem_cons.mp h with h | h
        · exact ⟨2, by omega, h⟩
        · cases h
  · rintro ⟨i, hi, h⟩
    rcases zlt3 hi with rfl | rfl | rfl
    · rw [h]; exact List.mem_cons_self
    · rw [h]; exact List.mem_cons_of_mem _ List.mem_cons_self
    · rw [h]; exact List.mem_cons_of_mem _ (List.mem_cons_of_mem _ List.mem_cons_self)
theorem zSo_all {L : List (zV × Bool)} {Q : zV → Prop} : (∀ s, s < L.length → Q (zSo L s)) ↔ ∀ v, v ∈ L → Q v.1 := by
  constructor
  · intro h v hv
    obtain ⟨s, hs, e⟩ := List.getElem_of_mem hv
    have h2 := h s hs
    rw [zSo_some (v := v) (by rw [List.getElem?_eq_getElem hs, e])] at h2
    exact h2
  · intro h s hs
    rw [zSo_some (v := L[s]) (List.getElem?_eq_getElem hs)]
    exact h _ (List.getElem_mem hs)
theorem zfit_mem {L : List (zV × Nat)} {X : zV} : zfit L L.length X ↔ ∀ v, v ∈ L → zhold v.2 (zev v.1 X) := by
  constructor
  · intro h v hv
    obtain ⟨s, hs, e⟩ := List.getElem_of_mem hv
    exact h s hs v (by rw [List.getElem?_eq_getElem hs, e])
  · intro h k hk v hv
    exact h v (List.mem_of_getElem? hv)
theorem zEp_ev (i : Nat) (e : Int) (X : zV) (hi : i < 3) : zev (zEp i e) X = zco X i - e * X.2.2.2 := by
  unfold zev zEp
  rcases zlt3 hi with rfl | rfl | rfl <;> simp [zco] <;> rw [Int.neg_mul] <;> omega
theorem zEn_ev (i : Nat) (e : Int) (X : zV) (hi : i < 3) : zev (if i = 0 then -1 else 0, if i = 1 then -1 else 0, if i = 2 then -1 else 0, e) X = e * X.2.2.2 - zco X i := by
  unfold zev
  rcases zlt3 hi with rfl | rfl | rfl <;> simp [zco] <;> omega
theorem zev_neg (a b c e : Int) (X : zV) : zev (-a, -b, -c, e) X = -zev (a, b, c, -e) X := by
  unfold zev
  simp only [Int.neg_mul]
  omega
/-- the direction of X -/
def zdir (X : zV) : zV := (X.1, X.2.1, X.2.2.1, 0)
/-- the functional without its constant -/
def zw0 (F : zV) : zV := (F.1, F.2.1, F.2.2.1, 0)
theorem zev_w0 (F X : zV) : zev (zw0 F) X = zev F (zdir X) := by
  unfold zev zw0 zdir
  simp
section ZFEAS
variable {n m q : Nat} {P O : zSt} {y2 y3 x1 x2 : Int32}
/-- what fits the planes is within the sides -/
theorem zfit_iff (hP : zPw n m q P) (h : zRl n m q P O) (hs : zSm m P O y2 y3 x1 x2) (X : zV) : zfit (zPLs O n m x1 x2 false) (zPLs O n m x1 x2 false).length X ↔ (∀ s, s < (zGa P y2 y3 n m).length → 0 ≤ zev (zSo (zGa P y2 y3 n m) s) X) ∧ ∀ i, i < 3 → n ≤ i → zco X i = 0 := by
  have hn := hP.1
  have hzero : ∀ i, i < 3 → n ≤ i → (zga P 0 i).toInt = 0 := fun i hi hni => by rw [(hP.2.2.2.2.2.2.2.2.1 i hi hni).1]; decide
  rw [zfit_mem, zSo_all (Q := fun F => 0 ≤ zev F X)]
  have hrow : ∀ r, r < m → zgat P y2 r → (((zga O 2 (3 * r)).toInt, (zga O 2 (3 * r + 1)).toInt, (zga O 2 (3 * r + 2)).toInt, -(if false then 0 else zRn O x2 r)) : zV) = ((zga P 2 (r * 3 + 0)).toInt, (zga P 2 (r * 3 + 1)).toInt, (zga P 2 (r * 3 + 2)).toInt, -(zrnum P y3 r).toInt) := by
    intro r hr hg
    have h5 := (h.2.2.2.2.1 r hr).1
    rw [← h5 0 (by omega), ← h5 1 (by omega), ← h5 2 (by omega), (hs r hr).2 hg]
    rfl
  constructor
  · intro hall
    have hb : ∀ i, i < 3 → 0 ≤ zev (zEp i (zga P 0 i).toInt) X ∧ (n ≤ i → zco X i = 0) := by
      intro i hi
      by_cases c : i < n
      · have := hall (zEp i (if false then 0 else (zga O 0 i).toInt), 1) (by
          unfold zPLs
          rw [List.mem_append, zPBs_mem]
          exact Or.inl ⟨i, hi, zPB_mem.mpr (Or.inl ⟨c, Or.inl rfl⟩)⟩)
        rw [(h.2.2.2.1 i hi).1] at this
        exact ⟨this.2.1 rfl, fun h => by omega⟩
      · have := hall (zEp i 0, 2) (by
          unfold zPLs
          rw [List.mem_append, zPBs_mem]
          exact Or.inl ⟨i, hi, zPB_mem.mpr (Or.inr ⟨by omega, rfl⟩)⟩)
        have e := this.2.2 rfl
        rw [hzero i hi (by omega)]
        have e2 : zev (zEp i 0) X = 0 := e
        refine ⟨by omega, fun _ => ?_⟩
        rw [zEp_ev i 0 X hi] at e2
        omega
    refine ⟨fun v hv => ?_, fun i hi hni => (hb i hi).2 hni⟩
    rcases zGa_mem.mp hv with hv | ⟨r, hr, hg, hv⟩ | ⟨i, hi, hg, hv⟩
    · obtain ⟨i, hi, e⟩ := zLL_mem.mp hv
      rw [e]
      exact (hb i hi).1
    · have hpl := hall _ (by
        unfold zPLs
        rw [List.mem_append, zPRs_mem]
        exact Or.inr ⟨r, hr, (hs r hr).1.mp hg, rfl⟩)
      simp only [] at hpl
      rw [hrow r hr hg] at hpl
      rcases (h.2.2.2.2.1 r hr).2.1 with ⟨e1, e2⟩ | ⟨e1, e2⟩ | ⟨e1, e2⟩
      · rw [e2, zI_nat (by omega)] at hpl
        rcases zRS_mem hv with ⟨-, e⟩ | ⟨h60, -⟩
        · rw [e]
          show 0 ≤ zev (-(zga P 2 (r * 3 + 0)).toInt, -(zga P 2 (r * 3 + 1)).toInt, -(zga P 2 (r * 3 + 2)).toInt, (zrnum P y3 r).toInt) X
          rw [zev_neg]
          have := hpl.1 rfl
          omega
        · exact absurd e1 h60
      · rw [e2, zI_nat (by omega)] at hpl
        rcases zRS_mem hv with ⟨h62, -⟩ | ⟨-, e⟩
        · exact absurd e1 h62
        · rw [e]
          exact hpl.2.1 rfl
      · rw [e2, zI_nat (by omega)] at hpl
        have e0 := hpl.2.2 rfl
        rcases zRS_mem hv with ⟨-, e⟩ | ⟨-, e⟩
        · rw [e]
          show 0 ≤ zev (-(zga P 2 (r * 3 + 0)).toInt, -(zga P 2 (r * 3 + 1)).toInt, -(zga P 2 (r * 3 + 2)).toInt, (zrnum P y3 r).toInt) X
          rw [zev_neg]
          omega
        · rw [e]
          show 0 ≤ zev ((zga P 2 (r * 3 + 0)).toInt, (zga P 2 (r * 3 + 1)).toInt, (zga P 2 (r * 3 + 2)).toInt, -(zrnum P y3 r).toInt) X
          omega
    · have hpl := hall (zEp i (if false then 0 else (zga O 1 i).toInt), 0) (by
        unfold zPLs
        rw [List.mem_append, zPBs_mem]
        exact Or.inl ⟨i, by omega, zPB_mem.mpr (Or.inl ⟨hi, Or.inr ⟨by rw [(h.2.2.2.1 i (by omega)).2]; exact hg, rfl⟩⟩)⟩)
      have e := hpl.1 rfl
      have e2 : zev (zEp i (zga O 1 i).toInt) X ≤ 0 := e
      rw [zEp_ev i _ X (by omega), (h.2.2.2.1 i (by omega)).2] at e2
      rw [hv]
      show 0 ≤ zev (if i = 0 then -1 else 0, if i = 1 then -1 else 0, if i = 2 then -1 else 0, (zga P 1 i).toInt) X
      rw [zEn_ev i _ X (by omega)]
      omega
  · rintro ⟨hall, hz⟩ v hv
    unfold zPLs at hv
    rw [List.mem_append, zPBs_mem, zPRs_mem] at hv
    rcases hv with ⟨i, hi, hv⟩ | ⟨r, hr, hb, hv⟩
    · have hl := hall (zEp i (zga P 0 i).toInt, false) (zGa_mem.mpr (Or.inl (zLL_mem.mpr ⟨i, hi, rfl⟩)))
      rcases zPB_mem.mp hv with ⟨hin, hv | ⟨hg, hv⟩⟩ | ⟨hni, hv⟩
      · rw [hv]
        refine ⟨fun h => by simp at h, fun _ => ?_, fun h => by simp at h⟩
        show 0 ≤ zev (zEp i (zga O 0 i).toInt) X
        rw [(h.2.2.2.1 i hi).1]
        exact hl
      · have hl2 := hall ((if i = 0 then -1 else 0, if i = 1 then -1 else 0, if i = 2 then -1 else 0, (zga P 1 i).toInt), false) (zGa_mem.mpr (Or.inr (Or.inr ⟨i, hin, by rw [← (h.2.2.2.1 i hi).2]; exact hg, rfl⟩)))
        rw [hv]
        refine ⟨fun _ => ?_, fun h => by simp at h, fun h => by simp at h⟩
        show zev (zEp i (zga O 1 i).toInt) X ≤ 0
        have e2 : 0 ≤ zev (if i = 0 then -1 else 0, if i = 1 then -1 else 0, if i = 2 then -1 else 0, (zga P 1 i).toInt) X := hl2
        rw [zEn_ev i _ X hi] at e2
        rw [zEp_ev i _ X hi, (h.2.2.2.1 i hi).2]
        omega
      · rw [hv]
        refine ⟨fun h => by simp at h, fun h => by simp at h, fun _ => ?_⟩
        show zev (zEp i 0) X = 0
        rw [zEp_ev i 0 X hi, hz i hi hni]
        omega
    · have hg := (hs r hr).1.mpr hb
      rw [hv]
      show zhold (zga O 3 r).toNatClampNeg (zev ((zga O 2 (3 * r)).toInt, (zga O 2 (3 * r + 1)).toInt, (zga O 2 (3 * r + 2)).toInt, -(if false then 0 else zRn O x2 r)) X)
      rw [hrow r hr hg]
      have s1 : zga P 3 r ≠ 62 → 0 ≤ zev (-(zga P 2 (r * 3 + 0)).toInt, -(zga P 2 (r * 3 + 1)).toInt, -(zga P 2 (r * 3 + 2)).toInt, (zrnum P y3 r).toInt) X := by
        intro hne
        refine hall (_, false) (zGa_mem.mpr (Or.inr (Or.inl ⟨r, hr, hg, ?_⟩)))
        unfold zRS
        rw [if_neg hne]
        exact List.mem_append_left _ (List.mem_singleton.mpr rfl)
      have s2 : zga P 3 r ≠ 60 → 0 ≤ zev ((zga P 2 (r * 3 + 0)).toInt, (zga P 2 (r * 3 + 1)).toInt, (zga P 2 (r * 3 + 2)).toInt, -(zrnum P y3 r).toInt) X := by
        intro hne
        refine hall (_, decide (zga P 3 r = 61)) (zGa_mem.mpr (Or.inr (Or.inl ⟨r, hr, hg, ?_⟩)))
        unfold zRS
        rw [if_neg hne]
        exact List.mem_append_right _ (List.mem_singleton.mpr rfl)
      rcases (h.2.2.2.2.1 r hr).2.1 with ⟨e1, e2⟩ | ⟨e1, e2⟩ | ⟨e1, e2⟩
      · rw [e2, zI_nat (by omega)]
        have := s1 (by rw [e1]; decide)
        rw [zev_neg] at this
        exact ⟨fun _ => by omega, fun h => by omega, fun h => by omega⟩
      · rw [e2, zI_nat (by omega)]
        have := s2 (by rw [e1]; decide)
        exact ⟨fun h => by omega, fun _ => by omega, fun h => by omega⟩
      · rw [e2, zI_nat (by omega)]
        have t1 := s1 (by rw [e1]; decide)
        rw [zev_neg] at t1
        have t2 := s2 (by rw [e1]; decide)
        exact ⟨fun h => by omega, fun h => by omega, fun _ => by omega⟩
end ZFEAS

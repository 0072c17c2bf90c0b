/-! 73: a basis that fits is among the reference's points, an open column among its rays. -/
theorem zPLs_map (O : zSt) (n m : Nat) (x1 x2 : Int32) : zPLs O n m x1 (-1) true = (zPLs O n m x1 x2 false).map (fun v => (zw0 v.1, v.2)) := by
  have e0 : ∀ i e, zEp i 0 = zw0 (zEp i e) := fun i e => by unfold zEp zw0; simp
  have hB : ∀ i, zPB O n true i = (zPB O n false i).map (fun v => (zw0 v.1, v.2)) := by
    intro i
    unfold zPB
    by_cases c : i < n
    · rw [if_pos c, if_pos c]
      by_cases c2 : (100 : Int32) ≤ zga O 1 i
      · rw [if_pos c2, if_pos c2, List.append_nil, List.append_nil]
        show [(zEp i 0, 1)] = [(zw0 (zEp i (zga O 0 i).toInt), 1)]
        rw [← e0]
      · rw [if_neg c2, if_neg c2]
        show [(zEp i 0, 1), (zEp i 0, 0)] = [(zw0 (zEp i (zga O 0 i).toInt), 1), (zw0 (zEp i (zga O 1 i).toInt), 0)]
        rw [← e0, ← e0]
    · rw [if_neg c, if_neg c]
      show [(zEp i 0, 2)] = [(zw0 (zEp i 0), 2)]
      rw [← e0]
  have hBs : ∀ k, zPBs O n true k = (zPBs O n false k).map (fun v => (zw0 v.1, v.2)) := by
    intro k
    induction k with
    | zero => rfl
    | succ k ih =>
      unfold zPBs
      rw [List.map_append, ih, hB]
  have hR : ∀ r, zPR O x1 (-1) true r = (zPR O x1 x2 false r).map (fun v => (zw0 v.1, v.2)) := by
    intro r
    unfold zPR
    split
    · show [(((zga O 2 (3 * r)).toInt, (zga O 2 (3 * r + 1)).toInt, (zga O 2 (3 * r + 2)).toInt, -(0 : Int)), (zga O 3 r).toNatClampNeg)] = [(zw0 ((zga O 2 (3 * r)).toInt, (zga O 2 (3 * r + 1)).toInt, (zga O 2 (3 * r + 2)).toInt, -(zRn O x2 r)), (zga O 3 r).toNatClampNeg)]
      unfold zw0
      simp
    · rfl
  have hRs : ∀ k, zPRs O x1 (-1) true k = (zPRs O x1 x2 false k).map (fun v => (zw0 v.1, v.2)) := by
    intro k
    induction k with
    | zero => rfl
    | succ k ih =>
      unfold zPRs
      rw [List.map_append, ih, hR]
  unfold zPLs
  rw [List.map_append, hBs, hRs]
theorem zfit_ray (O : zSt) (n m : Nat) (x1 x2 : Int32) (X : zV) : zfit (zPLs O n m x1 (-1) true) (zPLs O n m x1 (-1) true).length X ↔ zfit (zPLs O n m x1 x2 false) (zPLs O n m x1 x2 false).length (zdir X) := by
  rw [zfit_mem, zfit_mem, zPLs_map O n m x1 x2]
  constructor
  · intro h v hv
    have := h (zw0 v.1, v.2) (List.mem_map.mpr ⟨v, hv, rfl⟩)
    rw [← zev_w0]
    exact this
  · intro h w hw
    obtain ⟨v, hv, rfl⟩ := List.mem_map.mp hw
    have := h v hv
    rw [← zev_w0] at this
    exact this
def zneg (F : zV) : zV := (-F.1, -F.2.1, -F.2.2.1, -F.2.2.2)
theorem zev_zneg (F X : zV) : zev (zneg F) X = -zev F X := by
  unfold zev zneg
  simp only [Int.neg_mul]
  omega
theorem zside_plane {n m q : Nat} {P O : zSt} {y2 y3 x1 x2 : Int32} (hP : zPw n m q P) (h : zRl n m q P O) (hs : zSm m P O y2 y3 x1 x2) : ∀ s, s < (zGa P y2 y3 n m).length → ∃ (k : Nat) (v : zV × Nat), (zPLs O n m x1 x2 false)[k]? = some v ∧ (zSo (zGa P y2 y3 n m) s = v.1 ∨ zSo (zGa P y2 y3 n m) s = zneg v.1) := by
  have hn := hP.1
  refine (zSo_all (Q := fun F => ∃ (k : Nat) (v : zV × Nat), (zPLs O n m x1 x2 false)[k]? = some v ∧ (F = v.1 ∨ F = zneg v.1))).mpr ?_
  have mem : ∀ (F : zV) (w : zV × Nat), w ∈ zPLs O n m x1 x2 false → (F = w.1 ∨ F = zneg w.1) → ∃ (k : Nat) (v : zV × Nat), (zPLs O n m x1 x2 false)[k]? = some v ∧ (F = v.1 ∨ F = zneg v.1) := by
    intro F w hw hF
    obtain ⟨k, hk, e⟩ := List.getElem_of_mem hw
    exact ⟨k, w, by rw [List.getElem?_eq_getElem hk, e], hF⟩
  intro v hv
  rcases zGa_mem.mp hv with hv | ⟨r, hr, hg, hv⟩ | ⟨i, hi, hg, hv⟩
  · obtain ⟨i, hi, e⟩ := zLL_mem.mp hv
    by_cases c : i < n
    · refine mem _ (zEp i (if false then 0 else (zga O 0 i).toInt), 1) (by
        unfold zPLs
        rw [List.mem_append, zPBs_mem]
        exact Or.inl ⟨i, hi, zPB_mem.mpr (Or.inl ⟨c, Or.inl rfl⟩)⟩) (Or.inl ?_)
      rw [e]
      show zEp i (zga P 0 i).toInt = zEp i (zga O 0 i).toInt
      rw [(h.2.2.2.1 i hi).1]
    · refine mem _ (zEp i 0, 2) (by
        unfold zPLs
        rw [List.mem_append, zPBs_mem]
        exact Or.inl ⟨i, hi, zPB_mem.mpr (Or.inr ⟨by omega, rfl⟩)⟩) (Or.inl ?_)
      rw [e]
      show zEp i (zga P 0 i).toInt = zEp i 0
      rw [(hP.2.2.2.2.2.2.2.2.1 i hi (by omega)).1]
      rfl
  · have h5 := (h.2.2.2.2.1 r hr).1
    refine mem _ (((zga O 2 (3 * r)).toInt, (zga O 2 (3 * r + 1)).toInt, (zga O 2 (3 * r + 2)).toInt, -(if false then 0 else zRn O x2 r)), (zga O 3 r).toNatClampNeg) (by
      unfold zPLs
      rw [List.mem_append, zPRs_mem]
      exact Or.inr ⟨r, hr, (hs r hr).1.mp hg, rfl⟩) ?_
    have e : (((zga O 2 (3 * r)).toInt, (zga O 2 (3 * r + 1)).toInt, (zga O 2 (3 * r + 2)).toInt, -(if false then 0 else zRn O x2 r)) : zV) = ((zga P 2 (r * 3 + 0)).toInt, (zga P 2 (r * 3 + 1)).toInt, (zga P 2 (r * 3 + 2)).toInt, -(zrnum P y3 r).toInt) := by
      rw [← h5 0 (by omega), ← h5 1 (by omega), ← h5 2 (by omega), (hs r hr).2 hg]
      rfl
    simp only []
    rw [e]
    rcases zRS_mem hv with ⟨-, e⟩ | ⟨-, e⟩
    · right
      rw [e]
      unfold zneg
      simp
    · left
      rw [e]
  · refine mem _ (zEp i (if false then 0 else (zga O 1 i).toInt), 0) (by
      unfold zPLs
      rw [List.mem_append, zPBs_mem]
      exact Or.inl ⟨i, by omega, zPB_mem.mpr (Or.inl ⟨hi, Or.inr ⟨by rw [(h.2.2.2.1 i (by omega)).2]; exact hg, rfl⟩⟩)⟩) (Or.inr ?_)
    rw [hv]
    show ((if i = 0 then -1 else 0, if i = 1 then -1 else 0, if i = 2 then -1 else 0, (zga P 1 i).toInt) : zV) = zneg (zEp i (zga O 1 i).toInt)
    rw [(h.2.2.2.1 i (by omega)).2]
    unfold zneg zEp
    rcases zlt3 (show i < 3 by omega) with rfl | rfl | rfl <;> simp
def zTri (L : List (zV × Nat)) (t : Nat → zV) (i j k : Nat) : Prop := ∃ u v w : zV × Nat, L[i]? = some u ∧ L[j]? = some v ∧ L[k]? = some w ∧ zd3 u.1 v.1 w.1 ≠ 0 ∧ ∀ X, zev u.1 X = 0 → zev v.1 X = 0 → zev w.1 X = 0 → ∀ c, c < 3 → zev (t c) X = 0
theorem zd3_12 (u v w : zV) : zd3 v u w = -zd3 u v w := by
  unfold zd3
  grind
theorem zd3_23 (u v w : zV) : zd3 u w v = -zd3 u v w := by
  unfold zd3
  grind
theorem zd3_n1 (u v w : zV) : zd3 (zneg u) v w = -zd3 u v w := by
  unfold zd3 zneg
  grind
theorem zd3_n2 (u v w : zV) : zd3 u (zneg v) w = -zd3 u v w := by
  unfold zd3 zneg
  grind
theorem zd3_n3 (u v w : zV) : zd3 u v (zneg w) = -zd3 u v w := by
  unfold zd3 zneg
  grind
section ZTRI
variable {L : List (zV × Nat)} {t : Nat → zV} {i j k : Nat}
theorem zTri_12 (h : zTri L t i j k) : zTri L t j i k := by
  obtain ⟨u, v, w, h1, h2, h3, h4, h5⟩ := h
  exact ⟨v, u, w, h2, h1, h3, by rw [zd3_12]; omega, fun X a b c => h5 X b a c⟩
theorem zTri_23 (h : zTri L t i j k) : zTri L t i k j := by
  obtain ⟨u, v, w, h1, h2, h3, h4, h5⟩ := h
  exact ⟨u, w, v, h1, h3, h2, by rw [zd3_23]; omega, fun X a b c => h5 X a c b⟩
theorem zTri_ne (h : zTri L t i j k) : i ≠ j := by
  rintro rfl
  obtain ⟨u, v, w, h1, h2, h3, h4, h5⟩ := h
  rw [h1] at h2
  cases h2
  have := zd3_12 u.1 u.1 w.1
  omega
theorem zTri_sort (h : zTri L t i j k) : ∃ a b c, a < b ∧ b < c ∧ zTri L t a b c := by
  have n1 := zTri_ne h
  have n2 := zTri_ne (zTri_23 h)
  have n3 := zTri_ne (zTri_23 (zTri_12 h))
  by_cases c1 : i < j
  · by_cases c2 : j < k
    · exact ⟨i, j, k, c1, c2, h⟩
    · by_cases c3 : i < k
      · exact ⟨i, k, j, c3, by omega, zTri_23 h⟩
      · exact ⟨k, i, j, by omega, c1, zTri_12 (zTri_23 h)⟩
  · by_cases c2 : i < k
    · exact ⟨j, i, k, by omega, c2, zTri_12 h⟩
    · by_cases c3 : j < k
      · exact ⟨j, k, i, c3, by omega, zTri_23 (zTri_12 h)⟩
      · exact ⟨k, j, i, by omega, by omega, zTri_12 (zTri_23 (zTri_12 h))⟩
end ZTRI

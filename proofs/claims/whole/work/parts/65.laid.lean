/-! 65: the planes of bounds; laysPlanes as a whole. -/
theorem zlay_one {n m i : Nat} {x1 x2 x3 : Int32} {rays : Bool} {O0 O : zSt} (k8 : zSt → Int32 → Int32 → Int32 → Int32 → Option zSt) (h3 : x3 = if rays then 1 else 0) (hO : zOw2 n m O0) (hi : i < 3) {B : List (zV × Nat)} (hB : B.length ≤ 4) (hF : zFp O0 O) (hL : zPl O B) :
    ∃ O2, zFp O0 O2 ∧ zPl O2 (B ++ zPB O0 n rays i) ∧ (if (zgi O 10) ≤ zI i then fX12_laysPlanes_28 k8 O x1 x2 x3 (zI i) 0 else fX12_laysPlanes_28 k8 O x1 x2 x3 (zI i) 1) = k8 O2 x1 x2 x3 (zI (i + 1)) := by
  have w := zOw2_fp hO hF
  have hn := hO.1
  have b0 := (hO.2.2.2.2.1 i hi).1
  have b1 := (hO.2.2.2.2.1 i hi).2
  have e0 : zga O 0 = zga O0 0 := hF.2.2.1 0 (by omega)
  have e1 : zga O 1 = zga O0 1 := hF.2.2.1 1 (by omega)
  rw [w.2.2.1]
  by_cases c : n ≤ i
  · rw [if_pos (by rw [zI_le (by omega) (by omega)]; exact c)]
    obtain ⟨O2, f1, f2, f3⟩ := eX12_addBound hL (by omega) 0 i 2 hi (-0) (by decide)
    refine ⟨O2, hF.trans f3, ?_, ?_⟩
    · unfold zPB
      rw [if_neg (by omega)]
      exact f2
    · unfold fX12_laysPlanes_28
      rw [if_pos rfl]
      unfold fX12_laysPlanes_43
      rw [if_pos rfl]
      unfold fX12_laysPlanes_63 fX12_laysPlanes_64
      rw [zn2, f1, zbq, if_pos rfl]
      unfold fX12_laysPlanes_107
      rw [zlq, zn1, zI_add]
  · rw [if_neg (by rw [zI_le (by omega) (by omega)]; exact c)]
    unfold fX12_laysPlanes_28
    rw [if_neg (show ¬ (1 : Int32) = 0 by decide)]
    unfold fX12_laysPlanes_43
    rw [if_neg (show ¬ (1 : Int32) = 0 by decide)]
    cases rays with
    | false =>
      have h30 : x3 = 0 := h3
      rw [if_pos h30, if_pos (zin_zI hi (by omega))]
      obtain ⟨O2, f1, f2, f3⟩ := eX12_addBound hL (by omega) (zga O 0 (zI i).toNatClampNeg).toInt64 i 1 hi (-(zga O0 0 i).toInt) (by rw [z32_64, zI_nat (by omega), e0])
      have w2 := zOw2_fp hO (hF.trans f3)
      have e12 : zga O2 1 = zga O0 1 := (hF.trans f3).2.2.1 1 (by omega)
      unfold fX12_laysPlanes_64
      rw [← zn1] at f1
      rw [f1, zbq, if_neg (show ¬ (1 : Int32) = 0 by decide), if_pos (zin_zI hi (by omega)), zI_nat (by omega), e12]
      by_cases c2 : (100 : Int32) ≤ zga O0 1 i
      · rw [if_pos c2]
        refine ⟨O2, hF.trans f3, ?_, ?_⟩
        · unfold zPB
          rw [if_pos (by omega), if_pos c2, List.append_nil]
          exact f2
        · unfold fX12_laysPlanes_107
          rw [zlq, zn1, zI_add]
      · rw [if_neg c2, if_pos h30, if_pos (zin_zI hi (by omega))]
        obtain ⟨O3, g1, g2, g3⟩ := eX12_addBound f2 (by rw [List.length_append]; simp; omega) (zga O0 1 i).toInt64 i 0 hi (-(zga O0 1 i).toInt) (by rw [z32_64])
        refine ⟨O3, (hF.trans f3).trans g3, ?_, ?_⟩
        · unfold zPB
          rw [if_pos (by omega), if_neg c2, ← List.append_assoc]
          exact g2
        · unfold fX12_laysPlanes_104
          rw [zn0, g1, zbq]
          unfold fX12_laysPlanes_107
          rw [zlq, zn1, zI_add]
    | true =>
      have h31 : x3 = 1 := h3
      rw [if_neg (by rw [h31]; decide)]
      obtain ⟨O2, f1, f2, f3⟩ := eX12_addBound hL (by omega) 0 i 1 hi (-0) (by decide)
      have e12 : zga O2 1 = zga O0 1 := (hF.trans f3).2.2.1 1 (by omega)
      unfold fX12_laysPlanes_63 fX12_laysPlanes_64
      rw [← zn1] at f1
      rw [f1, zbq, if_neg (show ¬ (1 : Int32) = 0 by decide), if_pos (zin_zI hi (by omega)), zI_nat (by omega), e12]
      by_cases c2 : (100 : Int32) ≤ zga O0 1 i
      · rw [if_pos c2]
        refine ⟨O2, hF.trans f3, ?_, ?_⟩
        · unfold zPB
          rw [if_pos (by omega), if_pos c2, List.append_nil]
          exact f2
        · unfold fX12_laysPlanes_107
          rw [zlq, zn1, zI_add]
      · rw [if_neg c2, if_neg (by rw [h31]; decide)]
        obtain ⟨O3, g1, g2, g3⟩ := eX12_addBound f2 (by rw [List.length_append]; simp; omega) 0 i 0 hi (-0) (by decide)
        refine ⟨O3, (hF.trans f3).trans g3, ?_, ?_⟩
        · unfold zPB
          rw [if_pos (by omega), if_neg c2, ← List.append_assoc]
          exact g2
        · unfold fX12_laysPlanes_104
          rw [zn0, g1, zbq]
          unfold fX12_laysPlanes_107
          rw [zlq, zn1, zI_add]
theorem zlay_8 {n m : Nat} {x1 x2 x3 : Int32} {rays : Bool} {O0 : zSt} (h3 : x3 = if rays then 1 else 0) (hm6 : znb x1 m ≤ 6) (hO : zOw2 n m O0) : ∀ (d i f : Nat) (O : zSt), i + d = 3 → d < f → zFp O0 O → zPl O (zPBs O0 n rays i) → ∃ O2, fX12_laysPlanes_8 f O x1 x2 x3 (zI i) = some O2 ∧ zFp O0 O2 ∧ zPl O2 (zPLs O0 n m x1 x2 rays)
  | 0, i, f + 1, O, hi, hf, hF, hL => by
    have e : i = 3 := by omega
    subst e
    rw [fX12_laysPlanes_8, if_pos (by rw [zn3, zI_le (by omega) (by omega)]; omega)]
    rw [zn0]
    exact zlay_116 h3 hm6 hO (zPBs O0 n rays 3) (zPBs_len O0 n rays 3) m 0 6000 O (by omega) (by have := hO.2.1; omega) hF (by unfold zPRs; rw [List.append_nil]; exact hL)
  | d + 1, i, f + 1, O, hi, hf, hF, hL => by
    have hlen := zPBs_len O0 n rays i
    rw [fX12_laysPlanes_8, if_neg (by rw [zn3, zI_le (by omega) (by omega)]; omega)]
    obtain ⟨O2, g1, g2, g3⟩ := zlay_one (x1 := x1) (x2 := x2) (fX12_laysPlanes_8 f) h3 hO (show i < 3 by omega) (by omega) hF hL
    rw [g3]
    exact zlay_8 h3 hm6 hO d (i + 1) f O2 (by omega) (by omega) g1 g2
theorem eX12_lays {n m : Nat} {O : zSt} (x1 x2 x3 : Int32) (rays : Bool) (h3 : x3 = if rays then 1 else 0) (hm6 : znb x1 m ≤ 6) (hO : zOw2 n m O) : ∃ O2, fX12_laysPlanes O x1 x2 x3 = some O2 ∧ zFp O O2 ∧ zPl O2 (zPLs O n m x1 x2 rays) := by
  unfold fX12_laysPlanes
  rw [zlq, zn0]
  have hF : zFp O (zsi O 31 (zI 0)) := ⟨fun k hk => gi_sin hk, fun _ => rfl, fun _ _ => rfl, fun _ _ _ => rfl⟩
  exact zlay_8 h3 hm6 hO 3 0 6000 _ (by omega) (by omega) hF ⟨gi_si, fun k v hv => by cases hv⟩
theorem zPLs_len {n m : Nat} {O : zSt} (x1 x2 : Int32) (rays : Bool) (hm6 : znb x1 m ≤ 6) : (zPLs O n m x1 x2 rays).length ≤ 12 := by
  have h1 := zPBs_len O n rays 3
  have h2 := zPRs_len O x1 x2 rays m
  unfold zPLs
  rw [List.length_append]
  omega
/-- what is in the list of planes -/
theorem zPBs_mem {O : zSt} {n : Nat} {rays : Bool} {v : zV × Nat} : ∀ {k : Nat}, v ∈ zPBs O n rays k ↔ ∃ i, i < k ∧ v ∈ zPB O n rays i
  | 0 => ⟨fun h => (by cases h), fun ⟨i, h, _⟩ => (by omega)⟩
  | k + 1 => by
    unfold zPBs
    rw [List.mem_append, zPBs_mem]
    constructor
    · rintro (⟨i, h1, h2⟩ | h)
      · exact ⟨i, by omega, h2⟩
      · exact ⟨k, by omega, h⟩
    · rintro ⟨i, h1, h2⟩
      by_cases c : i < k
      · exact Or.inl ⟨i, c, h2⟩
      · have : i = k := by omega
        subst this
        exact Or.inr h2
theorem zPRs_mem {O : zSt} {x1 x2 : Int32} {rays : Bool} {v : zV × Nat} : ∀ {k : Nat}, v ∈ zPRs O x1 x2 rays k ↔ ∃ r, r < k ∧ zbt x1 r ∧ v = (((zga O 2 (3 * r)).toInt, (zga O 2 (3 * r + 1)).toInt, (zga O 2 (3 * r + 2)).toInt, -(if rays then 0 else zRn O x2 r)), (zga O 3 r).toNatClampNeg)
  | 0 => ⟨fun h => (by cases h), fun ⟨i, h, _⟩ => (by omega)⟩
  | k + 1 => by
    unfold zPRs
    rw [List.mem_append, zPRs_mem]
    constructor
    · rintro (⟨r, h1, h2, h3⟩ | h)
      · exact ⟨r, by omega, h2, h3⟩
      · unfold zPR at h
        split at h
        · rename_i c
          exact ⟨k, by omega, c, List.mem_singleton.mp h⟩
        · cases h
    · rintro ⟨r, h1, h2, h3⟩
      by_cases c : r < k
      · exact Or.inl ⟨r, c, h2, h3⟩
      · have : r = k := by omega
        subst this
        right
        unfold zPR
        unfold zbt at h2
        rw [if_pos h2]
        exact List.mem_singleton.mpr h3
theorem zPB_mem {O : zSt} {n : Nat} {rays : Bool} {i : Nat} {v : zV × Nat} : v ∈ zPB O n rays i ↔ (i < n ∧ (v = (zEp i (if rays then 0 else (zga O 0 i).toInt), 1) ∨ (¬ (100 : Int32) ≤ zga O 1 i ∧ v = (zEp i (if rays then 0 else (zga O 1 i).toInt), 0)))) ∨ (n ≤ i ∧ v = (zEp i 0, 2)) := by
  unfold zPB
  by_cases c : i < n
  · rw [if_pos c, List.mem_append, List.mem_singleton]
    by_cases c2 : (100 : Int32) ≤ zga O 1 i
    · rw [if_pos c2]
      constructor
      · rintro (h | h)
        · exact Or.inl ⟨c, Or.inl h⟩
        · cases h
      · rintro (⟨-, h | ⟨h, -⟩⟩ | ⟨h, -⟩)
        · exact Or.inl h
        · exact absurd c2 h
        · omega
    · rw [if_neg c2, List.mem_singleton]
      constructor
      · rintro (h | h)
        · exact Or.inl ⟨c, Or.inl h⟩
        · exact Or.inl ⟨c, Or.inr ⟨c2, h⟩⟩
      · rintro (⟨-, h | ⟨-, h⟩⟩ | ⟨h, -⟩)
        · exact Or.inl h
        · exact Or.inr h
        · omega
  · rw [if_neg c, List.mem_singleton]
    constructor
    · intro h
      exact Or.inr ⟨by omega, h⟩
    · rintro (⟨h, -⟩ | ⟨-, h⟩)
      · omega
      · exact h
theorem zPLs_b {n m : Nat} {O : zSt} (x1 x2 : Int32) (rays : Bool) (hO : zOw2 n m O) : ∀ (k : Nat) (v : zV × Nat), (zPLs O n m x1 x2 rays)[k]? = some v → zvb v.1 ∧ v.2 < 3 := by
  intro k v hv
  have h := List.mem_of_getElem? hv
  have ze : ∀ (i : Nat) (e : Int), zab e 100 → zvb (zEp i e) := by
    intro i e he
    have z : ∀ (c : Prop) [Decidable c], zab (if c then (1 : Int) else 0) 9 := by
      intro c _
      split <;> unfold zab <;> omega
    exact ⟨z _, z _, z _, zab_le (zab_neg he) (by omega)⟩
  unfold zPLs at h
  rw [List.mem_append, zPBs_mem, zPRs_mem] at h
  rcases h with ⟨i, hi, h⟩ | ⟨r, hr, -, h⟩
  · have hb := hO.2.2.2.2.1 i hi
    rcases zPB_mem.mp h with ⟨-, h | ⟨-, h⟩⟩ | ⟨-, h⟩
    · rw [h]
      refine ⟨ze i _ ?_, by omega⟩
      cases rays
      · exact zab_le hb.1 (by omega)
      · exact zab0 _
    · rw [h]
      refine ⟨ze i _ ?_, by omega⟩
      cases rays
      · exact hb.2
      · exact zab0 _
    · rw [h]
      exact ⟨ze i _ (zab0 _), by omega⟩
  · obtain ⟨c1, c2, c3⟩ := hO.2.2.2.2.2 r hr
    rw [h]
    refine ⟨⟨c1 0 (by omega), c1 1 (by omega), c1 2 (by omega), ?_⟩, ?_⟩
    · show zab (-(if rays then 0 else zRn O x2 r)) 1350
      apply zab_neg
      cases rays
      · show zab (zRn O x2 r) 1350
        unfold zRn
        unfold zab at *
        split <;> omega
      · exact zab0 _
    · show (zga O 3 r).toNatClampNeg < 3
      rcases c2 with e | e | e <;> rw [e, zI_nat (by omega)] <;> omega

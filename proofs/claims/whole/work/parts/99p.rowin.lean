/-! 9p: a row or an aim more: both programs stay well. -/
theorem zlv_cg {P P2 : zSt} : ∀ m, (∀ r, r < m → (zga P2 5 r = 0 ↔ zga P 5 r = 0)) → zlv P2 m = zlv P m
  | 0, _ => rfl
  | m + 1, h => by
    have ih := zlv_cg m (fun r hr => h r (by omega))
    have e := h m (by omega)
    have s1 : zlv P2 (m + 1) = zlv P2 m + if zga P2 5 m = 0 then 0 else 1 := rfl
    have s2 : zlv P (m + 1) = zlv P m + if zga P 5 m = 0 then 0 else 1 := rfl
    rw [s1, s2, ih]
    by_cases c : zga P 5 m = 0
    · rw [if_pos c, if_pos (e.mpr c)]
    · rw [if_neg c, if_neg (fun h => c (e.mp h))]
theorem zPw_row {n m q : Nat} {P P2 : zSt} {rel num : Int32} {G : Nat → Int32} (hP : zPw n m q P) (hm : m < 12) (hl : zlv P m < 6) (h8 : zgi P2 8 = zgi P 8) (h9 : zgi P2 9 = zI (m + 1)) (h10 : zgi P2 10 = zI (zlv P m + 1)) (h11 : zgi P2 11 = zgi P 11) (a0 : zga P2 0 = zga P 0) (a1 : zga P2 1 = zga P 1) (a6 : zga P2 6 = zga P 6) (a7 : zga P2 7 = zga P 7) (a2 : zga P2 2 = fun k => if m * 3 + 0 ≤ k ∧ k < m * 3 + 3 then G (k - m * 3) else zga P 2 k) (a3 : zga P2 3 = upd (zga P 3) m rel) (a4 : zga P2 4 = upd (zga P 4) m num) (a5 : zga P2 5 = upd (zga P 5) m 1) (hG : ∀ i, i < 3 → zab (G i).toInt 9 ∧ (n ≤ i → G i = 0)) (hrel : rel = 60 ∨ rel = 61 ∨ rel = 62) (hnum : zab num.toInt 99) : zPw n (m + 1) q P2 := by
  obtain ⟨hn, hm2, hq, g8, g9, g11, g10, hb, hz, hr, ha, hx⟩ := hP
  have lv : zlv P2 m = zlv P m := zlv_cg m (fun r hr => by rw [a5, upd_n (by omega)])
  have lv2 : zlv P2 (m + 1) = zlv P m + 1 := by
    have s1 : zlv P2 (m + 1) = zlv P2 m + if zga P2 5 m = 0 then 0 else 1 := rfl
    rw [s1, lv, a5, upd_s rfl, if_neg (by decide)]
  refine ⟨hn, by omega, hq, h8.trans g8, h9, h11.trans g11, ⟨?_, ?_⟩, ?_, ?_, ?_, ?_, ?_⟩
  · rw [lv2]; exact h10
  · omega
  · rw [a0, a1]; exact hb
  · rw [a0, a1]; exact hz
  · intro r hr2
    rw [a2, a3, a4]
    by_cases c : r = m
    · subst c
      rw [upd_s rfl, upd_s rfl]
      refine ⟨fun i hi => ?_, hrel, hnum⟩
      show zab ((if r * 3 + 0 ≤ r * 3 + i ∧ r * 3 + i < r * 3 + 3 then G (r * 3 + i - r * 3) else zga P 2 (r * 3 + i))).toInt 9 ∧ (n ≤ i → (if r * 3 + 0 ≤ r * 3 + i ∧ r * 3 + i < r * 3 + 3 then G (r * 3 + i - r * 3) else zga P 2 (r * 3 + i)) = 0)
      rw [if_pos (by omega), show r * 3 + i - r * 3 = i by omega]
      exact hG i hi
    · rw [upd_n c, upd_n c]
      obtain ⟨k1, k2, k3⟩ := hr r (by omega)
      refine ⟨fun i hi => ?_, k2, k3⟩
      show zab ((if m * 3 + 0 ≤ r * 3 + i ∧ r * 3 + i < m * 3 + 3 then G (r * 3 + i - m * 3) else zga P 2 (r * 3 + i))).toInt 9 ∧ (n ≤ i → (if m * 3 + 0 ≤ r * 3 + i ∧ r * 3 + i < m * 3 + 3 then G (r * 3 + i - m * 3) else zga P 2 (r * 3 + i)) = 0)
      rw [if_neg (by omega)]
      exact k1 i hi
  · rw [a6, a7]; exact ha
  · intro r h1 h2
    rw [a5, upd_n (by omega)]
    exact hx r (by omega) h2
theorem zRl_row {n m q : Nat} {P P2 O O2 : zSt} {rel num relO : Int32} {G H : Nat → Int32} (hR : zRl n m q P O) (hm : m < 12) (h10 : zgi O2 10 = zgi O 10) (h11 : zgi O2 11 = zI (m + 1)) (h12 : zgi O2 12 = zgi O 12) (a0 : zga P2 0 = zga P 0) (a1 : zga P2 1 = zga P 1) (a6 : zga P2 6 = zga P 6) (a7 : zga P2 7 = zga P 7) (a2 : zga P2 2 = fun k => if m * 3 + 0 ≤ k ∧ k < m * 3 + 3 then G (k - m * 3) else zga P 2 k) (a3 : zga P2 3 = upd (zga P 3) m rel) (a4 : zga P2 4 = upd (zga P 4) m num) (a5 : zga P2 5 = upd (zga P 5) m 1) (b0 : zga O2 0 = zga O 0) (b1 : zga O2 1 = zga O 1) (b5 : zga O2 5 = zga O 5) (b7 : zga O2 7 = zga O 7) (b6 : zga O2 6 = zga O 6) (b2 : zga O2 2 = fun k => if 3 * m + 0 ≤ k ∧ k < 3 * m + 3 then H (k - 3 * m) else zga O 2 k) (b3 : zga O2 3 = upd (zga O 3) m relO) (b4 : zga O2 4 = upd (zga O 4) m num) (hG : ∀ i, i < 3 → G i = H i) (hrel : (rel = 60 ∧ relO = zI 0) ∨ (rel = 62 ∧ relO = zI 1) ∨ (rel = 61 ∧ relO = zI 2)) : zRl n (m + 1) q P2 O2 := by
  obtain ⟨g10, g11, g12, g0, gr, ga, gx⟩ := hR
  refine ⟨h10.trans g10, h11, h12.trans g12, ?_, ?_, ?_, ?_⟩
  · rw [a0, a1, b0, b1]; exact g0
  · intro r hr2
    rw [a2, a3, a4, a5, b2, b3, b4, b6]
    by_cases c : r = m
    · subst c
      rw [upd_s rfl, upd_s rfl, upd_s rfl, upd_s rfl, upd_s rfl]
      refine ⟨fun i hi => ?_, hrel, rfl, ?_⟩
      · show (if 3 * r + 0 ≤ 3 * r + i ∧ 3 * r + i < 3 * r + 3 then H (3 * r + i - 3 * r) else zga O 2 (3 * r + i)) = (if r * 3 + 0 ≤ r * 3 + i ∧ r * 3 + i < r * 3 + 3 then G (r * 3 + i - r * 3) else zga P 2 (r * 3 + i))
        rw [if_pos (by omega), if_pos (by omega), show 3 * r + i - 3 * r = i by omega, show r * 3 + i - r * 3 = i by omega]
        exact (hG i hi).symm
      · exact ⟨fun _ => by decide, fun _ => gx r (by omega) hm⟩
    · rw [upd_n c, upd_n c, upd_n c, upd_n c, upd_n c]
      obtain ⟨k1, k2, k3, k4⟩ := gr r (by omega)
      refine ⟨fun i hi => ?_, k2, k3, k4⟩
      show (if 3 * m + 0 ≤ 3 * r + i ∧ 3 * r + i < 3 * m + 3 then H (3 * r + i - 3 * m) else zga O 2 (3 * r + i)) = (if m * 3 + 0 ≤ r * 3 + i ∧ r * 3 + i < m * 3 + 3 then G (r * 3 + i - m * 3) else zga P 2 (r * 3 + i))
      rw [if_neg (by omega), if_neg (by omega)]
      exact k1 i hi
  · rw [a6, a7, b5, b7]; exact ga
  · intro r h1 h2
    rw [b6]
    exact gx r (by omega) h2
theorem zPw_aim {n m q : Nat} {P P2 : zSt} {dir : Int32} {G : Nat → Int32} (hP : zPw n m q P) (hq : q < 3) (h8 : zgi P2 8 = zgi P 8) (h9 : zgi P2 9 = zgi P 9) (h10 : zgi P2 10 = zgi P 10) (h11 : zgi P2 11 = zI (q + 1)) (a0 : zga P2 0 = zga P 0) (a1 : zga P2 1 = zga P 1) (a2 : zga P2 2 = zga P 2) (a3 : zga P2 3 = zga P 3) (a4 : zga P2 4 = zga P 4) (a5 : zga P2 5 = zga P 5) (a6 : zga P2 6 = fun k => if q * 3 + 0 ≤ k ∧ k < q * 3 + 3 then G (k - q * 3) else zga P 6 k) (a7 : zga P2 7 = upd (zga P 7) q dir) (hG : ∀ i, i < 3 → zab (G i).toInt 9 ∧ (n ≤ i → G i = 0)) (hdir : dir = 1 ∨ dir = -1) : zPw n m (q + 1) P2 := by
  obtain ⟨hn, hm2, hq2, g8, g9, g11, g10, hb, hz, hr, ha, hx⟩ := hP
  have lv : zlv P2 m = zlv P m := zlv_cg m (fun r hr => by rw [a5])
  refine ⟨hn, hm2, by omega, h8.trans g8, h9.trans g9, h11, ⟨?_, ?_⟩, ?_, ?_, ?_, ?_, ?_⟩
  · rw [lv, h10]; exact g10.1
  · rw [lv]; exact g10.2
  · rw [a0, a1]; exact hb
  · rw [a0, a1]; exact hz
  · rw [a2, a3, a4]; exact hr
  · intro r hr2
    rw [a6, a7]
    by_cases c : r = q
    · subst c
      rw [upd_s rfl]
      refine ⟨fun i hi => ?_, hdir⟩
      show zab ((if r * 3 + 0 ≤ r * 3 + i ∧ r * 3 + i < r * 3 + 3 then G (r * 3 + i - r * 3) else zga P 6 (r * 3 + i))).toInt 9 ∧ (n ≤ i → (if r * 3 + 0 ≤ r * 3 + i ∧ r * 3 + i < r * 3 + 3 then G (r * 3 + i - r * 3) else zga P 6 (r * 3 + i)) = 0)
      rw [if_pos (by omega), show r * 3 + i - r * 3 = i by omega]
      exact hG i hi
    · rw [upd_n c]
      obtain ⟨k1, k2⟩ := ha r (by omega)
      refine ⟨fun i hi => ?_, k2⟩
      show zab ((if q * 3 + 0 ≤ r * 3 + i ∧ r * 3 + i < q * 3 + 3 then G (r * 3 + i - q * 3) else zga P 6 (r * 3 + i))).toInt 9 ∧ (n ≤ i → (if q * 3 + 0 ≤ r * 3 + i ∧ r * 3 + i < q * 3 + 3 then G (r * 3 + i - q * 3) else zga P 6 (r * 3 + i)) = 0)
      rw [if_neg (by omega)]
      exact k1 i hi
  · rw [a5]; exact hx
theorem zRl_aim {n m q : Nat} {P P2 O O2 : zSt} {dir dirO : Int32} {G H : Nat → Int32} (hR : zRl n m q P O) (h10 : zgi O2 10 = zgi O 10) (h11 : zgi O2 11 = zgi O 11) (h12 : zgi O2 12 = zI (q + 1)) (a0 : zga P2 0 = zga P 0) (a1 : zga P2 1 = zga P 1) (a2 : zga P2 2 = zga P 2) (a3 : zga P2 3 = zga P 3) (a4 : zga P2 4 = zga P 4) (a5 : zga P2 5 = zga P 5) (a6 : zga P2 6 = fun k => if q * 3 + 0 ≤ k ∧ k < q * 3 + 3 then G (k - q * 3) else zga P 6 k) (a7 : zga P2 7 = upd (zga P 7) q dir) (b0 : zga O2 0 = zga O 0) (b1 : zga O2 1 = zga O 1) (b2 : zga O2 2 = zga O 2) (b3 : zga O2 3 = zga O 3) (b4 : zga O2 4 = zga O 4) (b6 : zga O2 6 = zga O 6) (b5 : zga O2 5 = fun k => if 3 * q + 0 ≤ k ∧ k < 3 * q + 3 then H (k - 3 * q) else zga O 5 k) (b7 : zga O2 7 = upd (zga O 7) q dirO) (hG : ∀ i, i < 3 → G i = H i) (hdir : (dir = 1 ∧ dirO ≠ 0) ∨ (dir = -1 ∧ dirO = 0)) : zRl n m (q + 1) P2 O2 := by
  obtain ⟨g10, g11, g12, g0, gr, ga, gx⟩ := hR
  refine ⟨h10.trans g10, h11.trans g11, h12, ?_, ?_, ?_, ?_⟩
  · rw [a0, a1, b0, b1]; exact g0
  · rw [a2, a3, a4, a5, b2, b3, b4, b6]; exact gr
  · intro r hr2
    rw [a6, a7, b5, b7]
    by_cases c : r = q
    · subst c
      rw [upd_s rfl, upd_s rfl]
      refine ⟨fun i hi => ?_, hdir⟩
      show (if 3 * r + 0 ≤ 3 * r + i ∧ 3 * r + i < 3 * r + 3 then H (3 * r + i - 3 * r) else zga O 5 (3 * r + i)) = (if r * 3 + 0 ≤ r * 3 + i ∧ r * 3 + i < r * 3 + 3 then G (r * 3 + i - r * 3) else zga P 6 (r * 3 + i))
      rw [if_pos (by omega), if_pos (by omega), show 3 * r + i - 3 * r = i by omega, show r * 3 + i - r * 3 = i by omega]
      exact (hG i hi).symm
    · rw [upd_n c, upd_n c]
      obtain ⟨k1, k2⟩ := ga r (by omega)
      refine ⟨fun i hi => ?_, k2⟩
      show (if 3 * q + 0 ≤ 3 * r + i ∧ 3 * r + i < 3 * q + 3 then H (3 * r + i - 3 * q) else zga O 5 (3 * r + i)) = (if q * 3 + 0 ≤ r * 3 + i ∧ r * 3 + i < q * 3 + 3 then G (r * 3 + i - q * 3) else zga P 6 (r * 3 + i))
      rw [if_neg (by omega), if_neg (by omega)]
      exact k1 i hi
  · rw [b6]; exact gx

/-! 99zi7: cases of the law. Written by wip/gen/mklaw5.py. -/
theorem zmR_brokenBy : zMV yX12_brokenBy cX12_brokenBy 2 (some .int) 1 := ⟨zW_tab (List.mem_of_getElem? (i := 1983) (by decide +kernel)) (by decide +kernel), zW_tab (List.mem_of_getElem? (i := 13) (by decide +kernel)) (by decide +kernel), zW_tab (List.mem_of_getElem? (i := 1981) (by decide +kernel)) (by decide +kernel), zW_tab (List.mem_of_getElem? (i := 1982) (by decide +kernel)) (by decide +kernel), (by decide +kernel)⟩
theorem zlR_brokenBy : Cond.methodLink RL 237 yX12_brokenBy ∈ zW := zW_tab (List.mem_of_getElem? (i := 1980) (by decide +kernel)) (by decide +kernel)
theorem zlkL_brokenBy : Cond.methodLink RL 235 yL_brokenBy ∈ zW := zW_tab (List.mem_of_getElem? (i := 1313) (by decide +kernel)) (by decide +kernel)
theorem zmL_brokenBy : zML yL_brokenBy cL_brokenBy 4 (some .int) [(0, 9, 12, 13), (0, 9, 15, 33), (0, 9, 18, 38)] 3 := ⟨zW_tab (List.mem_of_getElem? (i := 1315) (by decide +kernel)) (by decide +kernel), zW_tab (List.mem_of_getElem? (i := 0) (by decide +kernel)) (by decide +kernel), zW_tab (List.mem_of_getElem? (i := 1314) (by decide +kernel)) (by decide +kernel), (by decide +kernel)⟩
theorem zlw_33 {C : zCtx} {base b L : Nat} {xs : Nat → Int32} (K : zLc C base b L xs) (hL : L ≤ 1536) {α : Nat → Nat → Nat} {σ : Nat → zSt} {f : Nat → UInt64} {i cells slots : Nat} (hi : i + 3 ≤ L) (hc : cells + 8 ≤ 601024) (hs : slots + 64 ≤ 7293034) (hJ : zJ σ) (kk : ∀ (τ : Nat → zSt) (g : Nat → UInt64), zJ τ → zG C 9 zmp (cells + 8) (slots + 64) (zLw (zcT C) α τ g) 1926 (zloc b α i) []) : zG C 9 zmp cells slots (zLw (zcT C) α σ f) 1804 (zloc b α i) [] := by
  by_cases hx : xs (i + 1) < 0 ∨ 4 ≤ xs (i + 1)
  · skip
    obtain ⟨v, O2, e2, e9, hj⟩ := zj_brokenBy_no hJ hx
    have e3 : zAg [("java/lang/IllegalArgumentException", 1), ("java/util/NoSuchElementException", 2), ("java/lang/UnsupportedOperationException", 3)] (.inl "java/lang/IllegalArgumentException" : String ⊕ Int32) v (zgi O2 9) := Or.inr ⟨_, rfl, by rw [e9]; simp⟩
    refine z_aload_n K.1 dL_law_1804 1 rfl ?_
    refine z_arg K hL (k := 1) (v := (xs (i + 1))) rfl rfl (by omega) 5 0 rfl rfl dL_law_1805 dL_law_1806 dL_law_1808 dL_law_1809 dL_law_1810 ?_
    obtain ⟨w2, hk, hw⟩ := zWr_ag (put := (fun v : Int32 => v.toInt64)) (σ 25) (by decide) e3
    refine z_aload_n K.1 dL_law_1811 3 rfl ?_
    refine z_callL (st := []) (ws2 := zLw (zcT C) α (zup σ 25 w2) f) K.1 K.2.1 (metL_brokenBy (zcl C) K.2.1.2.2.2.2.1 (zcD C) (zcT C) (α 0) (α 1) (α 2) (α 3) (α 4) (α 8) (α 12) (α 13) (α 16) (α 19) (α 20) (sO := σ 0) hx (α 25) hk) zmL_brokenBy zlkL_brokenBy dL_law_1812 [0, 25] rfl rfl [25] rfl (by decide) ⟨zsU, trivial⟩ rfl rfl rfl (Nat.le_of_ble_eq_true rfl) rfl rfl ⟨(Nat.le_of_ble_eq_true rfl), (Nat.le_of_ble_eq_true rfl)⟩ ⟨by show cells + 1 ≤ 601024; omega, by show slots + 6 ≤ 7293034; omega⟩ ?_
    refine z_istore (lv2 := (6, .int (zgi O2 9)) :: zloc b α i) K.1 dL_law_1815 (by decide) rfl ?_
    refine z_aload_n K.1 dL_law_1817 3 rfl ?_
    refine z_arg K hL (k := 1) (v := (xs (i + 1))) rfl rfl (by omega) 6 1 rfl rfl dL_law_1818 dL_law_1819 dL_law_1821 dL_law_1822 dL_law_1823 ?_
    refine z_callVi (st := []) (ws2 := zLw (zcT C) α (zup (zup σ 25 w2) 24 O2) f) K.1 (metX12_brokenBy (zcl C) (zcD C) (zcT C) (α 24) e2) zmR_brokenBy zlR_brokenBy dL_law_1824 24 0 13 rfl rfl rfl rfl [24] rfl rfl [24] rfl (by decide) ⟨zsX12, trivial⟩ rfl rfl rfl (Nat.le_of_ble_eq_true rfl) rfl rfl ⟨(Nat.le_of_ble_eq_true rfl), (Nat.le_of_ble_eq_true rfl)⟩ ⟨by show cells + 1 + 0 ≤ 601024; omega, by show slots + 6 + 0 ≤ 7293034; omega⟩ ?_
    refine z_istore (lv2 := (7, .int v) :: (6, .int (zgi O2 9)) :: zloc b α i) K.1 dL_law_1827 (by decide) rfl ?_
    exact ztl_i K rfl hw dL_law_1829 dL_law_1830 dL_law_1833 dL_law_1835 dL_law_1840 dL_law_1842 dL_law_1845 dL_law_1846 dL_law_1847 dL_law_1848 dL_law_1850 dL_law_1851 dL_law_1852 dL_law_1857 (by decide) (show cells + 1 + 0 ≤ 601024 by omega) (show slots + 6 + 0 ≤ 7293034 by omega) (z_wid (show cells + 1 + 0 ≤ cells + 8 by omega) (show slots + 6 + 0 ≤ slots + 64 by omega) (kk _ _ hj))
  · obtain ⟨k, hk4, hx⟩ := zfour hx
    have : k = 0 ∨ k = 1 ∨ k = 2 ∨ k = 3 := by omega
    rcases this with rfl | rfl | rfl | rfl
    · skip
      obtain ⟨r, v, t4, t5, t6, t7, O2, e1, e2, e3, hj⟩ := zj_brokenBy_0 hJ
      refine z_aload_n K.1 dL_law_1804 1 rfl ?_
      refine z_arg K hL (k := 1) (v := (0 : Int32)) rfl hx (by omega) 5 0 rfl rfl dL_law_1805 dL_law_1806 dL_law_1808 dL_law_1809 dL_law_1810 ?_
      obtain ⟨w2, hk, hw⟩ := zWr_ag (put := (fun v : Int32 => v.toInt64)) (σ 25) (by decide) e3
      refine z_aload_n K.1 dL_law_1811 3 rfl ?_
      refine z_callL (st := []) (ws2 := zLw (zcT C) α (zup (zup (zup (zup (zup σ 4 t4) 5 t5) 6 t6) 7 t7) 25 w2) f) K.1 K.2.1 (metL_brokenBy_0 (zcl C) K.2.1.2.2.2.2.1 (zcD C) (zcT C) (α 0) (α 1) (α 2) (α 3) (α 4) (α 8) (α 12) (α 13) (α 16) (α 19) (α 5) (α 6) (α 7) (α 20) e1 (α 25) hk) zmL_brokenBy zlkL_brokenBy dL_law_1812 [0, 1, 4, 5, 6, 7, 20, 25] rfl rfl [4, 5, 6, 7, 25] rfl (by decide) ⟨zsX9, zsX7, zsX1, zsX4, zsU, trivial⟩ rfl rfl rfl (Nat.le_of_ble_eq_true rfl) rfl rfl ⟨(Nat.le_of_ble_eq_true rfl), (Nat.le_of_ble_eq_true rfl)⟩ ⟨by show cells + 1 ≤ 601024; omega, by show slots + 6 ≤ 7293034; omega⟩ ?_
      refine z_istore (lv2 := (6, .int (zgi O2 9)) :: zloc b α i) K.1 dL_law_1815 (by decide) rfl ?_
      refine z_aload_n K.1 dL_law_1817 3 rfl ?_
      refine z_arg K hL (k := 1) (v := (0 : Int32)) rfl hx (by omega) 6 1 rfl rfl dL_law_1818 dL_law_1819 dL_law_1821 dL_law_1822 dL_law_1823 ?_
      refine z_callVi (st := []) (ws2 := zLw (zcT C) α (zup (zup (zup (zup (zup (zup σ 4 t4) 5 t5) 6 t6) 7 t7) 25 w2) 24 O2) f) K.1 (metX12_brokenBy (zcl C) (zcD C) (zcT C) (α 24) e2) zmR_brokenBy zlR_brokenBy dL_law_1824 24 0 13 rfl rfl rfl rfl [24] rfl rfl [24] rfl (by decide) ⟨zsX12, trivial⟩ rfl rfl rfl (Nat.le_of_ble_eq_true rfl) rfl rfl ⟨(Nat.le_of_ble_eq_true rfl), (Nat.le_of_ble_eq_true rfl)⟩ ⟨by show cells + 1 + 0 ≤ 601024; omega, by show slots + 6 + 0 ≤ 7293034; omega⟩ ?_
      refine z_istore (lv2 := (7, .int v) :: (6, .int (zgi O2 9)) :: zloc b α i) K.1 dL_law_1827 (by decide) rfl ?_
      exact ztl_i K rfl hw dL_law_1829 dL_law_1830 dL_law_1833 dL_law_1835 dL_law_1840 dL_law_1842 dL_law_1845 dL_law_1846 dL_law_1847 dL_law_1848 dL_law_1850 dL_law_1851 dL_law_1852 dL_law_1857 (by decide) (show cells + 1 + 0 ≤ 601024 by omega) (show slots + 6 + 0 ≤ 7293034 by omega) (z_wid (show cells + 1 + 0 ≤ cells + 8 by omega) (show slots + 6 + 0 ≤ slots + 64 by omega) (kk _ _ hj))
    · skip
      obtain ⟨r, v, t4, t5, t6, t7, O2, e1, e2, e3, hj⟩ := zj_brokenBy_1 hJ
      refine z_aload_n K.1 dL_law_1804 1 rfl ?_
      refine z_arg K hL (k := 1) (v := (1 : Int32)) rfl hx (by omega) 5 0 rfl rfl dL_law_1805 dL_law_1806 dL_law_1808 dL_law_1809 dL_law_1810 ?_
      obtain ⟨w2, hk, hw⟩ := zWr_ag (put := (fun v : Int32 => v.toInt64)) (σ 25) (by decide) e3
      refine z_aload_n K.1 dL_law_1811 3 rfl ?_
      refine z_callL (st := []) (ws2 := zLw (zcT C) α (zup (zup (zup (zup (zup σ 4 t4) 5 t5) 6 t6) 7 t7) 25 w2) f) K.1 K.2.1 (metL_brokenBy_1 (zcl C) K.2.1.2.2.2.2.1 (zcD C) (zcT C) (α 0) (α 1) (α 2) (α 3) (α 4) (α 8) (α 12) (α 13) (α 16) (α 19) (α 5) (α 6) (α 7) (α 20) e1 (α 25) hk) zmL_brokenBy zlkL_brokenBy dL_law_1812 [0, 1, 4, 5, 6, 7, 21, 25] rfl rfl [4, 5, 6, 7, 25] rfl (by decide) ⟨zsX9, zsX7, zsX1, zsX4, zsU, trivial⟩ rfl rfl rfl (Nat.le_of_ble_eq_true rfl) rfl rfl ⟨(Nat.le_of_ble_eq_true rfl), (Nat.le_of_ble_eq_true rfl)⟩ ⟨by show cells + 1 ≤ 601024; omega, by show slots + 6 ≤ 7293034; omega⟩ ?_
      refine z_istore (lv2 := (6, .int (zgi O2 9)) :: zloc b α i) K.1 dL_law_1815 (by decide) rfl ?_
      refine z_aload_n K.1 dL_law_1817 3 rfl ?_
      refine z_arg K hL (k := 1) (v := (1 : Int32)) rfl hx (by omega) 6 1 rfl rfl dL_law_1818 dL_law_1819 dL_law_1821 dL_law_1822 dL_law_1823 ?_
      refine z_callVi (st := []) (ws2 := zLw (zcT C) α (zup (zup (zup (zup (zup (zup σ 4 t4) 5 t5) 6 t6) 7 t7) 25 w2) 24 O2) f) K.1 (metX12_brokenBy (zcl C) (zcD C) (zcT C) (α 24) e2) zmR_brokenBy zlR_brokenBy dL_law_1824 24 0 13 rfl rfl rfl rfl [24] rfl rfl [24] rfl (by decide) ⟨zsX12, trivial⟩ rfl rfl rfl (Nat.le_of_ble_eq_true rfl) rfl rfl ⟨(Nat.le_of_ble_eq_true rfl), (Nat.le_of_ble_eq_true rfl)⟩ ⟨by show cells + 1 + 0 ≤ 601024; omega, by show slots + 6 + 0 ≤ 7293034; omega⟩ ?_
      refine z_istore (lv2 := (7, .int v) :: (6, .int (zgi O2 9)) :: zloc b α i) K.1 dL_law_1827 (by decide) rfl ?_
      exact ztl_i K rfl hw dL_law_1829 dL_law_1830 dL_law_1833 dL_law_1835 dL_law_1840 dL_law_1842 dL_law_1845 dL_law_1846 dL_law_1847 dL_law_1848 dL_law_1850 dL_law_1851 dL_law_1852 dL_law_1857 (by decide) (show cells + 1 + 0 ≤ 601024 by omega) (show slots + 6 + 0 ≤ 7293034 by omega) (z_wid (show cells + 1 + 0 ≤ cells + 8 by omega) (show slots + 6 + 0 ≤ slots + 64 by omega) (kk _ _ hj))
    · skip
      obtain ⟨r, v, t4, t5, t6, t7, O2, e1, e2, e3, hj⟩ := zj_brokenBy_2 hJ
      refine z_aload_n K.1 dL_law_1804 1 rfl ?_
      refine z_arg K hL (k := 1) (v := (2 : Int32)) rfl hx (by omega) 5 0 rfl rfl dL_law_1805 dL_law_1806 dL_law_1808 dL_law_1809 dL_law_1810 ?_
      obtain ⟨w2, hk, hw⟩ := zWr_ag (put := (fun v : Int32 => v.toInt64)) (σ 25) (by decide) e3
      refine z_aload_n K.1 dL_law_1811 3 rfl ?_
      refine z_callL (st := []) (ws2 := zLw (zcT C) α (zup (zup (zup (zup (zup σ 4 t4) 5 t5) 6 t6) 7 t7) 25 w2) f) K.1 K.2.1 (metL_brokenBy_2 (zcl C) K.2.1.2.2.2.2.1 (zcD C) (zcT C) (α 0) (α 1) (α 2) (α 3) (α 4) (α 8) (α 12) (α 13) (α 16) (α 19) (α 5) (α 6) (α 7) (α 20) e1 (α 25) hk) zmL_brokenBy zlkL_brokenBy dL_law_1812 [0, 1, 4, 5, 6, 7, 22, 25] rfl rfl [4, 5, 6, 7, 25] rfl (by decide) ⟨zsX9, zsX7, zsX1, zsX4, zsU, trivial⟩ rfl rfl rfl (Nat.le_of_ble_eq_true rfl) rfl rfl ⟨(Nat.le_of_ble_eq_true rfl), (Nat.le_of_ble_eq_true rfl)⟩ ⟨by show cells + 1 ≤ 601024; omega, by show slots + 6 ≤ 7293034; omega⟩ ?_
      refine z_istore (lv2 := (6, .int (zgi O2 9)) :: zloc b α i) K.1 dL_law_1815 (by decide) rfl ?_
      refine z_aload_n K.1 dL_law_1817 3 rfl ?_
      refine z_arg K hL (k := 1) (v := (2 : Int32)) rfl hx (by omega) 6 1 rfl rfl dL_law_1818 dL_law_1819 dL_law_1821 dL_law_1822 dL_law_1823 ?_
      refine z_callVi (st := []) (ws2 := zLw (zcT C) α (zup (zup (zup (zup (zup (zup σ 4 t4) 5 t5) 6 t6) 7 t7) 25 w2) 24 O2) f) K.1 (metX12_brokenBy (zcl C) (zcD C) (zcT C) (α 24) e2) zmR_brokenBy zlR_brokenBy dL_law_1824 24 0 13 rfl rfl rfl rfl [24] rfl rfl [24] rfl (by decide) ⟨zsX12, trivial⟩ rfl rfl rfl (Nat.le_of_ble_eq_true rfl) rfl rfl ⟨(Nat.le_of_ble_eq_true rfl), (Nat.le_of_ble_eq_true rfl)⟩ ⟨by show cells + 1 + 0 ≤ 601024; omega, by show slots + 6 + 0 ≤ 7293034; omega⟩ ?_
      refine z_istore (lv2 := (7, .int v) :: (6, .int (zgi O2 9)) :: zloc b α i) K.1 dL_law_1827 (by decide) rfl ?_
      exact ztl_i K rfl hw dL_law_1829 dL_law_1830 dL_law_1833 dL_law_1835 dL_law_1840 dL_law_1842 dL_law_1845 dL_law_1846 dL_law_1847 dL_law_1848 dL_law_1850 dL_law_1851 dL_law_1852 dL_law_1857 (by decide) (show cells + 1 + 0 ≤ 601024 by omega) (show slots + 6 + 0 ≤ 7293034 by omega) (z_wid (show cells + 1 + 0 ≤ cells + 8 by omega) (show slots + 6 + 0 ≤ slots + 64 by omega) (kk _ _ hj))
    · skip
      obtain ⟨r, v, t4, t5, t6, t7, O2, e1, e2, e3, hj⟩ := zj_brokenBy_3 hJ
      refine z_aload_n K.1 dL_law_1804 1 rfl ?_
      refine z_arg K hL (k := 1) (v := (3 : Int32)) rfl hx (by omega) 5 0 rfl rfl dL_law_1805 dL_law_1806 dL_law_1808 dL_law_1809 dL_law_1810 ?_
      obtain ⟨w2, hk, hw⟩ := zWr_ag (put := (fun v : Int32 => v.toInt64)) (σ 25) (by decide) e3
      refine z_aload_n K.1 dL_law_1811 3 rfl ?_
      refine z_callL (st := []) (ws2 := zLw (zcT C) α (zup (zup (zup (zup (zup σ 4 t4) 5 t5) 6 t6) 7 t7) 25 w2) f) K.1 K.2.1 (metL_brokenBy_3 (zcl C) K.2.1.2.2.2.2.1 (zcD C) (zcT C) (α 0) (α 1) (α 2) (α 3) (α 4) (α 8) (α 12) (α 13) (α 16) (α 19) (α 5) (α 6) (α 7) (α 20) e1 (α 25) hk) zmL_brokenBy zlkL_brokenBy dL_law_1812 [0, 1, 4, 5, 6, 7, 23, 25] rfl rfl [4, 5, 6, 7, 25] rfl (by decide) ⟨zsX9, zsX7, zsX1, zsX4, zsU, trivial⟩ rfl rfl rfl (Nat.le_of_ble_eq_true rfl) rfl rfl ⟨(Nat.le_of_ble_eq_true rfl), (Nat.le_of_ble_eq_true rfl)⟩ ⟨by show cells + 1 ≤ 601024; omega, by show slots + 6 ≤ 7293034; omega⟩ ?_
      refine z_istore (lv2 := (6, .int (zgi O2 9)) :: zloc b α i) K.1 dL_law_1815 (by decide) rfl ?_
      refine z_aload_n K.1 dL_law_1817 3 rfl ?_
      refine z_arg K hL (k := 1) (v := (3 : Int32)) rfl hx (by omega) 6 1 rfl rfl dL_law_1818 dL_law_1819 dL_law_1821 dL_law_1822 dL_law_1823 ?_
      refine z_callVi (st := []) (ws2 := zLw (zcT C) α (zup (zup (zup (zup (zup (zup σ 4 t4) 5 t5) 6 t6) 7 t7) 25 w2) 24 O2) f) K.1 (metX12_brokenBy (zcl C) (zcD C) (zcT C) (α 24) e2) zmR_brokenBy zlR_brokenBy dL_law_1824 24 0 13 rfl rfl rfl rfl [24] rfl rfl [24] rfl (by decide) ⟨zsX12, trivial⟩ rfl rfl rfl (Nat.le_of_ble_eq_true rfl) rfl rfl ⟨(Nat.le_of_ble_eq_true rfl), (Nat.le_of_ble_eq_true rfl)⟩ ⟨by show cells + 1 + 0 ≤ 601024; omega, by show slots + 6 + 0 ≤ 7293034; omega⟩ ?_
      refine z_istore (lv2 := (7, .int v) :: (6, .int (zgi O2 9)) :: zloc b α i) K.1 dL_law_1827 (by decide) rfl ?_
      exact ztl_i K rfl hw dL_law_1829 dL_law_1830 dL_law_1833 dL_law_1835 dL_law_1840 dL_law_1842 dL_law_1845 dL_law_1846 dL_law_1847 dL_law_1848 dL_law_1850 dL_law_1851 dL_law_1852 dL_law_1857 (by decide) (show cells + 1 + 0 ≤ 601024 by omega) (show slots + 6 + 0 ≤ 7293034 by omega) (z_wid (show cells + 1 + 0 ≤ cells + 8 by omega) (show slots + 6 + 0 ≤ slots + 64 by omega) (kk _ _ hj))
theorem zmR_tightShare : zMV yX12_tightShare cX12_tightShare 1 (some .float) 0 := ⟨zW_tab (List.mem_of_getElem? (i := 1987) (by decide +kernel)) (by decide +kernel), zW_tab (List.mem_of_getElem? (i := 13) (by decide +kernel)) (by decide +kernel), zW_tab (List.mem_of_getElem? (i := 1985) (by decide +kernel)) (by decide +kernel), zW_tab (List.mem_of_getElem? (i := 1986) (by decide +kernel)) (by decide +kernel), (by decide +kernel)⟩
theorem zlR_tightShare : Cond.methodLink RL 241 yX12_tightShare ∈ zW := zW_tab (List.mem_of_getElem? (i := 1984) (by decide +kernel)) (by decide +kernel)
theorem zlkL_tightShare : Cond.methodLink RL 238 yL_tightShare ∈ zW := zW_tab (List.mem_of_getElem? (i := 1322) (by decide +kernel)) (by decide +kernel)
theorem zmL_tightShare : zML yL_tightShare cL_tightShare 3 (some .int) [(0, 8, 11, 33)] 2 := ⟨zW_tab (List.mem_of_getElem? (i := 1324) (by decide +kernel)) (by decide +kernel), zW_tab (List.mem_of_getElem? (i := 0) (by decide +kernel)) (by decide +kernel), zW_tab (List.mem_of_getElem? (i := 1323) (by decide +kernel)) (by decide +kernel), (by decide +kernel)⟩
theorem zlw_34 {C : zCtx} {base b L : Nat} {xs : Nat → Int32} (K : zLc C base b L xs) (hL : L ≤ 1536) {α : Nat → Nat → Nat} {σ : Nat → zSt} {f : Nat → UInt64} {i cells slots : Nat} (hi : i + 3 ≤ L) (hc : cells + 8 ≤ 601024) (hs : slots + 64 ≤ 7293034) (hJ : zJ σ) (kk : ∀ (τ : Nat → zSt) (g : Nat → UInt64), zJ τ → zG C 9 zmp (cells + 8) (slots + 64) (zLw (zcT C) α τ g) 1926 (zloc b α i) []) : zG C 9 zmp cells slots (zLw (zcT C) α σ f) 1860 (zloc b α i) [] := by
  obtain ⟨r, v, t4, t5, t6, t7, O2, e1, e2, e3, e6, hj⟩ := zj_tightShare hJ 
  refine z_aload_n K.1 dL_law_1860 1 rfl ?_
  obtain ⟨w2, hk, hw⟩ := zWd_ag f (by decide) e6 e3
  refine z_aload K.1 dL_law_1861 4 rfl ?_
  refine z_callL (st := []) (ws2 := zLw (zcT C) α (zup (zup (zup (zup σ 4 t4) 5 t5) 6 t6) 7 t7) w2) K.1 K.2.1 (metL_tightShare (zcl C) K.2.1.2.2.2.2.1 (zcD C) (zcT C) (α 0) (α 1) (α 2) (α 3) (α 4) (α 8) (α 12) (α 13) (α 16) (α 19) (α 5) (α 6) (α 7) (α 20) e1 (α 26) hk) zmL_tightShare zlkL_tightShare dL_law_1863 [0, 1, 4, 5, 6, 7, 26] rfl rfl [4, 5, 6, 7, 26] rfl (by decide) ⟨zsX9, zsX7, zsX1, zsX4, zsUd, trivial⟩ rfl rfl rfl (Nat.le_of_ble_eq_true rfl) rfl rfl ⟨(Nat.le_of_ble_eq_true rfl), (Nat.le_of_ble_eq_true rfl)⟩ ⟨by show cells + 2 ≤ 601024; omega, by show slots + 12 ≤ 7293034; omega⟩ ?_
  refine z_istore (lv2 := (6, .int (zgi O2 9)) :: zloc b α i) K.1 dL_law_1866 (by decide) rfl ?_
  refine z_aload_n K.1 dL_law_1868 3 rfl ?_
  refine z_callVf (st := []) (ws2 := zLw (zcT C) α (zup (zup (zup (zup (zup σ 4 t4) 5 t5) 6 t6) 7 t7) 24 O2) w2) K.1 (metX12_tightShare (zcl C) (zcD C) (zcT C) (α 24) e2) zmR_tightShare zlR_tightShare dL_law_1869 24 0 13 rfl rfl rfl rfl [24] rfl rfl [24] rfl (by decide) ⟨zsX12, trivial⟩ rfl rfl rfl (Nat.le_of_ble_eq_true rfl) rfl rfl ⟨(Nat.le_of_ble_eq_true rfl), (Nat.le_of_ble_eq_true rfl)⟩ ⟨by show cells + 2 + 0 ≤ 601024; omega, by show slots + 12 + 0 ≤ 7293034; omega⟩ ?_
  refine z_fstore (lv2 := (7, .float v) :: (6, .int (zgi O2 9)) :: zloc b α i) K.1 dL_law_1872 (by decide) rfl ?_
  refine zthr K (c := zgi O2 9) rfl (j2 := 4) rfl dL_law_1874 dL_law_1875 (show cells + 2 + 0 ≤ 601024 by omega) (show slots + 12 + 0 ≤ 7293034 by omega) ?_
  refine z_iload K.1 dL_law_1878 1 rfl ?_
  refine z_icmp_eq (tgt := 1885) K.1 dL_law_1880 (by decide) (fun _ => ?_) (fun h => absurd rfl h)
  refine z_iload K.1 dL_law_1885 1 rfl ?_
  have ke : zG C 9 zmp (cells + 2 + 0) (slots + 12 + 0) (zLw (zcT C) α (zup (zup (zup (zup (zup σ 4 t4) 5 t5) 6 t6) 7 t7) 24 O2) w2) 1923 ((7, .float v) :: (6, .int (zgi O2 9)) :: zloc b α i) [] := by
    refine z_goto (tgt := 1926) K.1 dL_law_1923 (by decide) ?_
    exact z_at rfl rfl rfl [2, 3, 4, 5, 6, 7] rfl (z_wid (show cells + 2 + 0 ≤ cells + 8 by omega) (show slots + 12 + 0 ≤ slots + 64 by omega) (kk _ _ hj))
  refine z_if_ne (tgt := 1923) K.1 dL_law_1887 (by decide) (fun _ => ke) (fun h0 => ?_)
  rcases hw with ⟨-, hw⟩ | hw
  · refine z_aload K.1 dL_law_1890 6 rfl ?_
    refine z_iconst (v := (0 : Int32)) K.1 dL_law_1892 rfl ?_
    refine z_dald K.1 26 0 (by decide) dL_law_1893 rfl rfl ?_
    refine z_fload K.1 dL_law_1894 0 rfl ?_
    have hz := e6
    unfold zfok at hz
    simp only [Bool.and_eq_true, decide_eq_true_eq] at hz
    refine z_f2d K.1 dL_law_1896 hz.1 ?_
    rw [hw]
    exact z_dcmp_eq (tgt := 1923) K.1 dL_law_1897 dL_law_1898 (by decide) hz.2 ke
  · exact absurd h0 hw

/-! 99zi6: cases of the law. Written by wip/gen/mklaw5.py. -/
theorem zmR_keep : zMV yX12_keep cX12_keep 4 (some .char) 1 := ⟨zW_tab (List.mem_of_getElem? (i := 1963) (by decide +kernel)) (by decide +kernel), zW_tab (List.mem_of_getElem? (i := 13) (by decide +kernel)) (by decide +kernel), zW_tab (List.mem_of_getElem? (i := 1961) (by decide +kernel)) (by decide +kernel), zW_tab (List.mem_of_getElem? (i := 1962) (by decide +kernel)) (by decide +kernel), (by decide +kernel)⟩
theorem zlR_keep : Cond.methodLink RL 231 yX12_keep ∈ zW := zW_tab (List.mem_of_getElem? (i := 1960) (by decide +kernel)) (by decide +kernel)
theorem zlkL_keep : Cond.methodLink RL 229 yL_keep ∈ zW := zW_tab (List.mem_of_getElem? (i := 1284) (by decide +kernel)) (by decide +kernel)
theorem zmL_keep : zML yL_keep cL_keep 4 (some .int) [(0, 9, 12, 13), (0, 9, 15, 33)] 3 := ⟨zW_tab (List.mem_of_getElem? (i := 1286) (by decide +kernel)) (by decide +kernel), zW_tab (List.mem_of_getElem? (i := 0) (by decide +kernel)) (by decide +kernel), zW_tab (List.mem_of_getElem? (i := 1285) (by decide +kernel)) (by decide +kernel), (by decide +kernel)⟩
theorem zlw_31 {C : zCtx} {base b L : Nat} {xs : Nat → Int32} (K : zLc C base b L xs) (hL : L ≤ 1536) {α : Nat → Nat → Nat} {σ : Nat → zSt} {f : Nat → UInt64} {i cells slots : Nat} (hi : i + 3 ≤ L) (hc : cells + 8 ≤ 601024) (hs : slots + 64 ≤ 7293034) (hJ : zJ σ) (kk : ∀ (τ : Nat → zSt) (g : Nat → UInt64), zJ τ → zG C 9 zmp (cells + 8) (slots + 64) (zLw (zcT C) α τ g) 1926 (zloc b α i) []) : zG C 9 zmp cells slots (zLw (zcT C) α σ f) 1692 (zloc b α i) [] := by
  by_cases hx : xs (i + 1) < 0 ∨ 4 ≤ xs (i + 1)
  · skip
    obtain ⟨v, O2, e2, e9, hj⟩ := zj_keep_no hJ hx
    have e3 : zAg [("java/lang/IllegalArgumentException", 1), ("java/util/NoSuchElementException", 2)] (.inl "java/lang/IllegalArgumentException" : String ⊕ Int32) v (zgi O2 9) := Or.inr ⟨_, rfl, by rw [e9]; simp⟩
    refine z_aload_n K.1 dL_law_1692 1 rfl ?_
    refine z_arg K hL (k := 1) (v := (xs (i + 1))) rfl rfl (by omega) 5 0 rfl rfl dL_law_1693 dL_law_1694 dL_law_1696 dL_law_1697 dL_law_1698 ?_
    obtain ⟨w2, hk, hw⟩ := zWr_ag (put := (fun v : Int32 => v.toInt64)) (σ 25) (by decide) e3
    refine z_aload_n K.1 dL_law_1699 3 rfl ?_
    refine z_callL (st := []) (ws2 := zLw (zcT C) α (zup σ 25 w2) f) K.1 K.2.1 (metL_keep (zcl C) K.2.1.2.2.2.2.1 (zcD C) (zcT C) (α 0) (α 1) (α 2) (α 3) (α 4) (α 8) (α 12) (α 13) (α 16) (α 19) (α 20) (sO := σ 0) hx (α 25) hk) zmL_keep zlkL_keep dL_law_1700 [0, 25] rfl rfl [25] rfl (by decide) ⟨zsU, trivial⟩ rfl rfl rfl (Nat.le_of_ble_eq_true rfl) rfl rfl ⟨(Nat.le_of_ble_eq_true rfl), (Nat.le_of_ble_eq_true rfl)⟩ ⟨by show cells + 1 ≤ 601024; omega, by show slots + 6 ≤ 7293034; omega⟩ ?_
    refine z_istore (lv2 := (6, .int (zgi O2 9)) :: zloc b α i) K.1 dL_law_1703 (by decide) rfl ?_
    refine z_aload_n K.1 dL_law_1705 3 rfl ?_
    refine z_arg K hL (k := 1) (v := (xs (i + 1))) rfl rfl (by omega) 6 1 rfl rfl dL_law_1706 dL_law_1707 dL_law_1709 dL_law_1710 dL_law_1711 ?_
    refine z_callVi (st := []) (ws2 := zLw (zcT C) α (zup (zup σ 25 w2) 24 O2) f) K.1 (metX12_keep (zcl C) (zcD C) (zcT C) (α 24) e2) zmR_keep zlR_keep dL_law_1712 24 0 13 rfl rfl rfl rfl [24] rfl rfl [24] rfl (by decide) ⟨zsX12, trivial⟩ rfl rfl rfl (Nat.le_of_ble_eq_true rfl) rfl rfl ⟨(Nat.le_of_ble_eq_true rfl), (Nat.le_of_ble_eq_true rfl)⟩ ⟨by show cells + 1 + 0 ≤ 601024; omega, by show slots + 6 + 0 ≤ 7293034; omega⟩ ?_
    refine z_istore (lv2 := (7, .int v) :: (6, .int (zgi O2 9)) :: zloc b α i) K.1 dL_law_1715 (by decide) rfl ?_
    exact ztl_i K rfl hw dL_law_1717 dL_law_1718 dL_law_1721 dL_law_1723 dL_law_1728 dL_law_1730 dL_law_1733 dL_law_1734 dL_law_1735 dL_law_1736 dL_law_1738 dL_law_1739 dL_law_1740 dL_law_1745 (by decide) (show cells + 1 + 0 ≤ 601024 by omega) (show slots + 6 + 0 ≤ 7293034 by omega) (z_wid (show cells + 1 + 0 ≤ cells + 8 by omega) (show slots + 6 + 0 ≤ slots + 64 by omega) (kk _ _ hj))
  · obtain ⟨k, hk4, hx⟩ := zfour hx
    have : k = 0 ∨ k = 1 ∨ k = 2 ∨ k = 3 := by omega
    rcases this with rfl | rfl | rfl | rfl
    · skip
      obtain ⟨r, v, t4, t5, t6, t7, t20, O2, e1, e2, e3, hj⟩ := zj_keep_0 hJ
      refine z_aload_n K.1 dL_law_1692 1 rfl ?_
      refine z_arg K hL (k := 1) (v := (0 : Int32)) rfl hx (by omega) 5 0 rfl rfl dL_law_1693 dL_law_1694 dL_law_1696 dL_law_1697 dL_law_1698 ?_
      obtain ⟨w2, hk, hw⟩ := zWr_ag (put := (fun v : Int32 => v.toInt64)) (σ 25) (by decide) e3
      refine z_aload_n K.1 dL_law_1699 3 rfl ?_
      refine z_callL (st := []) (ws2 := zLw (zcT C) α (zup (zup (zup (zup (zup (zup σ 4 t4) 5 t5) 6 t6) 7 t7) 20 t20) 25 w2) f) K.1 K.2.1 (metL_keep_0 (zcl C) K.2.1.2.2.2.2.1 (zcD C) (zcT C) (α 0) (α 1) (α 2) (α 3) (α 4) (α 8) (α 12) (α 13) (α 16) (α 19) (α 5) (α 6) (α 7) (α 20) e1 (α 25) hk) zmL_keep zlkL_keep dL_law_1700 [0, 1, 4, 5, 6, 7, 20, 25] rfl rfl [4, 5, 6, 7, 20, 25] rfl (by decide) ⟨zsX9, zsX7, zsX1, zsX4, zsX4, zsU, trivial⟩ rfl rfl rfl (Nat.le_of_ble_eq_true rfl) rfl rfl ⟨(Nat.le_of_ble_eq_true rfl), (Nat.le_of_ble_eq_true rfl)⟩ ⟨by show cells + 1 ≤ 601024; omega, by show slots + 6 ≤ 7293034; omega⟩ ?_
      refine z_istore (lv2 := (6, .int (zgi O2 9)) :: zloc b α i) K.1 dL_law_1703 (by decide) rfl ?_
      refine z_aload_n K.1 dL_law_1705 3 rfl ?_
      refine z_arg K hL (k := 1) (v := (0 : Int32)) rfl hx (by omega) 6 1 rfl rfl dL_law_1706 dL_law_1707 dL_law_1709 dL_law_1710 dL_law_1711 ?_
      refine z_callVi (st := []) (ws2 := zLw (zcT C) α (zup (zup (zup (zup (zup (zup (zup σ 4 t4) 5 t5) 6 t6) 7 t7) 20 t20) 25 w2) 24 O2) f) K.1 (metX12_keep (zcl C) (zcD C) (zcT C) (α 24) e2) zmR_keep zlR_keep dL_law_1712 24 0 13 rfl rfl rfl rfl [24] rfl rfl [24] rfl (by decide) ⟨zsX12, trivial⟩ rfl rfl rfl (Nat.le_of_ble_eq_true rfl) rfl rfl ⟨(Nat.le_of_ble_eq_true rfl), (Nat.le_of_ble_eq_true rfl)⟩ ⟨by show cells + 1 + 0 ≤ 601024; omega, by show slots + 6 + 0 ≤ 7293034; omega⟩ ?_
      refine z_istore (lv2 := (7, .int v) :: (6, .int (zgi O2 9)) :: zloc b α i) K.1 dL_law_1715 (by decide) rfl ?_
      exact ztl_i K rfl hw dL_law_1717 dL_law_1718 dL_law_1721 dL_law_1723 dL_law_1728 dL_law_1730 dL_law_1733 dL_law_1734 dL_law_1735 dL_law_1736 dL_law_1738 dL_law_1739 dL_law_1740 dL_law_1745 (by decide) (show cells + 1 + 0 ≤ 601024 by omega) (show slots + 6 + 0 ≤ 7293034 by omega) (z_wid (show cells + 1 + 0 ≤ cells + 8 by omega) (show slots + 6 + 0 ≤ slots + 64 by omega) (kk _ _ hj))
    · skip
      obtain ⟨r, v, t4, t5, t6, t7, t21, O2, e1, e2, e3, hj⟩ := zj_keep_1 hJ
      refine z_aload_n K.1 dL_law_1692 1 rfl ?_
      refine z_arg K hL (k := 1) (v := (1 : Int32)) rfl hx (by omega) 5 0 rfl rfl dL_law_1693 dL_law_1694 dL_law_1696 dL_law_1697 dL_law_1698 ?_
      obtain ⟨w2, hk, hw⟩ := zWr_ag (put := (fun v : Int32 => v.toInt64)) (σ 25) (by decide) e3
      refine z_aload_n K.1 dL_law_1699 3 rfl ?_
      refine z_callL (st := []) (ws2 := zLw (zcT C) α (zup (zup (zup (zup (zup (zup σ 4 t4) 5 t5) 6 t6) 7 t7) 21 t21) 25 w2) f) K.1 K.2.1 (metL_keep_1 (zcl C) K.2.1.2.2.2.2.1 (zcD C) (zcT C) (α 0) (α 1) (α 2) (α 3) (α 4) (α 8) (α 12) (α 13) (α 16) (α 19) (α 5) (α 6) (α 7) (α 20) e1 (α 25) hk) zmL_keep zlkL_keep dL_law_1700 [0, 1, 4, 5, 6, 7, 21, 25] rfl rfl [4, 5, 6, 7, 21, 25] rfl (by decide) ⟨zsX9, zsX7, zsX1, zsX4, zsX4, zsU, trivial⟩ rfl rfl rfl (Nat.le_of_ble_eq_true rfl) rfl rfl ⟨(Nat.le_of_ble_eq_true rfl), (Nat.le_of_ble_eq_true rfl)⟩ ⟨by show cells + 1 ≤ 601024; omega, by show slots + 6 ≤ 7293034; omega⟩ ?_
      refine z_istore (lv2 := (6, .int (zgi O2 9)) :: zloc b α i) K.1 dL_law_1703 (by decide) rfl ?_
      refine z_aload_n K.1 dL_law_1705 3 rfl ?_
      refine z_arg K hL (k := 1) (v := (1 : Int32)) rfl hx (by omega) 6 1 rfl rfl dL_law_1706 dL_law_1707 dL_law_1709 dL_law_1710 dL_law_1711 ?_
      refine z_callVi (st := []) (ws2 := zLw (zcT C) α (zup (zup (zup (zup (zup (zup (zup σ 4 t4) 5 t5) 6 t6) 7 t7) 21 t21) 25 w2) 24 O2) f) K.1 (metX12_keep (zcl C) (zcD C) (zcT C) (α 24) e2) zmR_keep zlR_keep dL_law_1712 24 0 13 rfl rfl rfl rfl [24] rfl rfl [24] rfl (by decide) ⟨zsX12, trivial⟩ rfl rfl rfl (Nat.le_of_ble_eq_true rfl) rfl rfl ⟨(Nat.le_of_ble_eq_true rfl), (Nat.le_of_ble_eq_true rfl)⟩ ⟨by show cells + 1 + 0 ≤ 601024; omega, by show slots + 6 + 0 ≤ 7293034; omega⟩ ?_
      refine z_istore (lv2 := (7, .int v) :: (6, .int (zgi O2 9)) :: zloc b α i) K.1 dL_law_1715 (by decide) rfl ?_
      exact ztl_i K rfl hw dL_law_1717 dL_law_1718 dL_law_1721 dL_law_1723 dL_law_1728 dL_law_1730 dL_law_1733 dL_law_1734 dL_law_1735 dL_law_1736 dL_law_1738 dL_law_1739 dL_law_1740 dL_law_1745 (by decide) (show cells + 1 + 0 ≤ 601024 by omega) (show slots + 6 + 0 ≤ 7293034 by omega) (z_wid (show cells + 1 + 0 ≤ cells + 8 by omega) (show slots + 6 + 0 ≤ slots + 64 by omega) (kk _ _ hj))
    · skip
      obtain ⟨r, v, t4, t5, t6, t7, t22, O2, e1, e2, e3, hj⟩ := zj_keep_2 hJ
      refine z_aload_n K.1 dL_law_1692 1 rfl ?_
      refine z_arg K hL (k := 1) (v := (2 : Int32)) rfl hx (by omega) 5 0 rfl rfl dL_law_1693 dL_law_1694 dL_law_1696 dL_law_1697 dL_law_1698 ?_
      obtain ⟨w2, hk, hw⟩ := zWr_ag (put := (fun v : Int32 => v.toInt64)) (σ 25) (by decide) e3
      refine z_aload_n K.1 dL_law_1699 3 rfl ?_
      refine z_callL (st := []) (ws2 := zLw (zcT C) α (zup (zup (zup (zup (zup (zup σ 4 t4) 5 t5) 6 t6) 7 t7) 22 t22) 25 w2) f) K.1 K.2.1 (metL_keep_2 (zcl C) K.2.1.2.2.2.2.1 (zcD C) (zcT C) (α 0) (α 1) (α 2) (α 3) (α 4) (α 8) (α 12) (α 13) (α 16) (α 19) (α 5) (α 6) (α 7) (α 20) e1 (α 25) hk) zmL_keep zlkL_keep dL_law_1700 [0, 1, 4, 5, 6, 7, 22, 25] rfl rfl [4, 5, 6, 7, 22, 25] rfl (by decide) ⟨zsX9, zsX7, zsX1, zsX4, zsX4, zsU, trivial⟩ rfl rfl rfl (Nat.le_of_ble_eq_true rfl) rfl rfl ⟨(Nat.le_of_ble_eq_true rfl), (Nat.le_of_ble_eq_true rfl)⟩ ⟨by show cells + 1 ≤ 601024; omega, by show slots + 6 ≤ 7293034; omega⟩ ?_
      refine z_istore (lv2 := (6, .int (zgi O2 9)) :: zloc b α i) K.1 dL_law_1703 (by decide) rfl ?_
      refine z_aload_n K.1 dL_law_1705 3 rfl ?_
      refine z_arg K hL (k := 1) (v := (2 : Int32)) rfl hx (by omega) 6 1 rfl rfl dL_law_1706 dL_law_1707 dL_law_1709 dL_law_1710 dL_law_1711 ?_
      refine z_callVi (st := []) (ws2 := zLw (zcT C) α (zup (zup (zup (zup (zup (zup (zup σ 4 t4) 5 t5) 6 t6) 7 t7) 22 t22) 25 w2) 24 O2) f) K.1 (metX12_keep (zcl C) (zcD C) (zcT C) (α 24) e2) zmR_keep zlR_keep dL_law_1712 24 0 13 rfl rfl rfl rfl [24] rfl rfl [24] rfl (by decide) ⟨zsX12, trivial⟩ rfl rfl rfl (Nat.le_of_ble_eq_true rfl) rfl rfl ⟨(Nat.le_of_ble_eq_true rfl), (Nat.le_of_ble_eq_true rfl)⟩ ⟨by show cells + 1 + 0 ≤ 601024; omega, by show slots + 6 + 0 ≤ 7293034; omega⟩ ?_
      refine z_istore (lv2 := (7, .int v) :: (6, .int (zgi O2 9)) :: zloc b α i) K.1 dL_law_1715 (by decide) rfl ?_
      exact ztl_i K rfl hw dL_law_1717 dL_law_1718 dL_law_1721 dL_law_1723 dL_law_1728 dL_law_1730 dL_law_1733 dL_law_1734 dL_law_1735 dL_law_1736 dL_law_1738 dL_law_1739 dL_law_1740 dL_law_1745 (by decide) (show cells + 1 + 0 ≤ 601024 by omega) (show slots + 6 + 0 ≤ 7293034 by omega) (z_wid (show cells + 1 + 0 ≤ cells + 8 by omega) (show slots + 6 + 0 ≤ slots + 64 by omega) (kk _ _ hj))
    · skip
      obtain ⟨r, v, t4, t5, t6, t7, t23, O2, e1, e2, e3, hj⟩ := zj_keep_3 hJ
      refine z_aload_n K.1 dL_law_1692 1 rfl ?_
      refine z_arg K hL (k := 1) (v := (3 : Int32)) rfl hx (by omega) 5 0 rfl rfl dL_law_1693 dL_law_1694 dL_law_1696 dL_law_1697 dL_law_1698 ?_
      obtain ⟨w2, hk, hw⟩ := zWr_ag (put := (fun v : Int32 => v.toInt64)) (σ 25) (by decide) e3
      refine z_aload_n K.1 dL_law_1699 3 rfl ?_
      refine z_callL (st := []) (ws2 := zLw (zcT C) α (zup (zup (zup (zup (zup (zup σ 4 t4) 5 t5) 6 t6) 7 t7) 23 t23) 25 w2) f) K.1 K.2.1 (metL_keep_3 (zcl C) K.2.1.2.2.2.2.1 (zcD C) (zcT C) (α 0) (α 1) (α 2) (α 3) (α 4) (α 8) (α 12) (α 13) (α 16) (α 19) (α 5) (α 6) (α 7) (α 20) e1 (α 25) hk) zmL_keep zlkL_keep dL_law_1700 [0, 1, 4, 5, 6, 7, 23, 25] rfl rfl [4, 5, 6, 7, 23, 25] rfl (by decide) ⟨zsX9, zsX7, zsX1, zsX4, zsX4, zsU, trivial⟩ rfl rfl rfl (Nat.le_of_ble_eq_true rfl) rfl rfl ⟨(Nat.le_of_ble_eq_true rfl), (Nat.le_of_ble_eq_true rfl)⟩ ⟨by show cells + 1 ≤ 601024; omega, by show slots + 6 ≤ 7293034; omega⟩ ?_
      refine z_istore (lv2 := (6, .int (zgi O2 9)) :: zloc b α i) K.1 dL_law_1703 (by decide) rfl ?_
      refine z_aload_n K.1 dL_law_1705 3 rfl ?_
      refine z_arg K hL (k := 1) (v := (3 : Int32)) rfl hx (by omega) 6 1 rfl rfl dL_law_1706 dL_law_1707 dL_law_1709 dL_law_1710 dL_law_1711 ?_
      refine z_callVi (st := []) (ws2 := zLw (zcT C) α (zup (zup (zup (zup (zup (zup (zup σ 4 t4) 5 t5) 6 t6) 7 t7) 23 t23) 25 w2) 24 O2) f) K.1 (metX12_keep (zcl C) (zcD C) (zcT C) (α 24) e2) zmR_keep zlR_keep dL_law_1712 24 0 13 rfl rfl rfl rfl [24] rfl rfl [24] rfl (by decide) ⟨zsX12, trivial⟩ rfl rfl rfl (Nat.le_of_ble_eq_true rfl) rfl rfl ⟨(Nat.le_of_ble_eq_true rfl), (Nat.le_of_ble_eq_true rfl)⟩ ⟨by show cells + 1 + 0 ≤ 601024; omega, by show slots + 6 + 0 ≤ 7293034; omega⟩ ?_
      refine z_istore (lv2 := (7, .int v) :: (6, .int (zgi O2 9)) :: zloc b α i) K.1 dL_law_1715 (by decide) rfl ?_
      exact ztl_i K rfl hw dL_law_1717 dL_law_1718 dL_law_1721 dL_law_1723 dL_law_1728 dL_law_1730 dL_law_1733 dL_law_1734 dL_law_1735 dL_law_1736 dL_law_1738 dL_law_1739 dL_law_1740 dL_law_1745 (by decide) (show cells + 1 + 0 ≤ 601024 by omega) (show slots + 6 + 0 ≤ 7293034 by omega) (z_wid (show cells + 1 + 0 ≤ cells + 8 by omega) (show slots + 6 + 0 ≤ slots + 64 by omega) (kk _ _ hj))
theorem zmR_kept : zMV yX12_kept cX12_kept 2 (some .char) 1 := ⟨zW_tab (List.mem_of_getElem? (i := 1979) (by decide +kernel)) (by decide +kernel), zW_tab (List.mem_of_getElem? (i := 13) (by decide +kernel)) (by decide +kernel), zW_tab (List.mem_of_getElem? (i := 1977) (by decide +kernel)) (by decide +kernel), zW_tab (List.mem_of_getElem? (i := 1978) (by decide +kernel)) (by decide +kernel), (by decide +kernel)⟩
theorem zlR_kept : Cond.methodLink RL 234 yX12_kept ∈ zW := zW_tab (List.mem_of_getElem? (i := 1976) (by decide +kernel)) (by decide +kernel)
theorem zlkL_kept : Cond.methodLink RL 232 yL_kept ∈ zW := zW_tab (List.mem_of_getElem? (i := 1306) (by decide +kernel)) (by decide +kernel)
theorem zmL_kept : zML yL_kept cL_kept 4 (some .int) [(0, 9, 12, 13)] 3 := ⟨zW_tab (List.mem_of_getElem? (i := 1308) (by decide +kernel)) (by decide +kernel), zW_tab (List.mem_of_getElem? (i := 0) (by decide +kernel)) (by decide +kernel), zW_tab (List.mem_of_getElem? (i := 1307) (by decide +kernel)) (by decide +kernel), (by decide +kernel)⟩
theorem zlw_32 {C : zCtx} {base b L : Nat} {xs : Nat → Int32} (K : zLc C base b L xs) (hL : L ≤ 1536) {α : Nat → Nat → Nat} {σ : Nat → zSt} {f : Nat → UInt64} {i cells slots : Nat} (hi : i + 3 ≤ L) (hc : cells + 8 ≤ 601024) (hs : slots + 64 ≤ 7293034) (hJ : zJ σ) (kk : ∀ (τ : Nat → zSt) (g : Nat → UInt64), zJ τ → zG C 9 zmp (cells + 8) (slots + 64) (zLw (zcT C) α τ g) 1926 (zloc b α i) []) : zG C 9 zmp cells slots (zLw (zcT C) α σ f) 1748 (zloc b α i) [] := by
  by_cases hx : xs (i + 1) < 0 ∨ 4 ≤ xs (i + 1)
  · skip
    obtain ⟨v, O2, e2, e9, hj⟩ := zj_kept_no hJ hx
    have e3 : zAg [("java/lang/IllegalArgumentException", 1)] (.inl "java/lang/IllegalArgumentException" : String ⊕ Int32) v (zgi O2 9) := Or.inr ⟨_, rfl, by rw [e9]; simp⟩
    refine z_aload_n K.1 dL_law_1748 1 rfl ?_
    refine z_arg K hL (k := 1) (v := (xs (i + 1))) rfl rfl (by omega) 5 0 rfl rfl dL_law_1749 dL_law_1750 dL_law_1752 dL_law_1753 dL_law_1754 ?_
    obtain ⟨w2, hk, hw⟩ := zWr_ag (put := (fun v : Int32 => v.toInt64)) (σ 25) (by decide) e3
    refine z_aload_n K.1 dL_law_1755 3 rfl ?_
    refine z_callL (st := []) (ws2 := zLw (zcT C) α (zup σ 25 w2) f) K.1 K.2.1 (metL_kept (zcl C) K.2.1.2.2.2.2.1 (zcD C) (zcT C) (α 0) (α 1) (α 2) (α 3) (α 4) (α 8) (α 12) (α 13) (α 16) (α 19) (α 20) (sO := σ 0) hx (α 25) hk) zmL_kept zlkL_kept dL_law_1756 [0, 25] rfl rfl [25] rfl (by decide) ⟨zsU, trivial⟩ rfl rfl rfl (Nat.le_of_ble_eq_true rfl) rfl rfl ⟨(Nat.le_of_ble_eq_true rfl), (Nat.le_of_ble_eq_true rfl)⟩ ⟨by show cells + 1 ≤ 601024; omega, by show slots + 6 ≤ 7293034; omega⟩ ?_
    refine z_istore (lv2 := (6, .int (zgi O2 9)) :: zloc b α i) K.1 dL_law_1759 (by decide) rfl ?_
    refine z_aload_n K.1 dL_law_1761 3 rfl ?_
    refine z_arg K hL (k := 1) (v := (xs (i + 1))) rfl rfl (by omega) 6 1 rfl rfl dL_law_1762 dL_law_1763 dL_law_1765 dL_law_1766 dL_law_1767 ?_
    refine z_callVi (st := []) (ws2 := zLw (zcT C) α (zup (zup σ 25 w2) 24 O2) f) K.1 (metX12_kept (zcl C) (zcD C) (zcT C) (α 24) e2) zmR_kept zlR_kept dL_law_1768 24 0 13 rfl rfl rfl rfl [24] rfl rfl [24] rfl (by decide) ⟨zsX12, trivial⟩ rfl rfl rfl (Nat.le_of_ble_eq_true rfl) rfl rfl ⟨(Nat.le_of_ble_eq_true rfl), (Nat.le_of_ble_eq_true rfl)⟩ ⟨by show cells + 1 + 0 ≤ 601024; omega, by show slots + 6 + 0 ≤ 7293034; omega⟩ ?_
    refine z_istore (lv2 := (7, .int v) :: (6, .int (zgi O2 9)) :: zloc b α i) K.1 dL_law_1771 (by decide) rfl ?_
    exact ztl_i K rfl hw dL_law_1773 dL_law_1774 dL_law_1777 dL_law_1779 dL_law_1784 dL_law_1786 dL_law_1789 dL_law_1790 dL_law_1791 dL_law_1792 dL_law_1794 dL_law_1795 dL_law_1796 dL_law_1801 (by decide) (show cells + 1 + 0 ≤ 601024 by omega) (show slots + 6 + 0 ≤ 7293034 by omega) (z_wid (show cells + 1 + 0 ≤ cells + 8 by omega) (show slots + 6 + 0 ≤ slots + 64 by omega) (kk _ _ hj))
  · obtain ⟨k, hk4, hx⟩ := zfour hx
    have : k = 0 ∨ k = 1 ∨ k = 2 ∨ k = 3 := by omega
    rcases this with rfl | rfl | rfl | rfl
    · skip
      obtain ⟨v, t4, t5, t6, t7, O2, e1, e2, e3, hj⟩ := zj_kept_0 hJ
      have e3 : zAg [("java/lang/IllegalArgumentException", 1)] (.inr v : String ⊕ Int32) v (zgi O2 9) := Or.inl ⟨rfl, e3⟩
      refine z_aload_n K.1 dL_law_1748 1 rfl ?_
      refine z_arg K hL (k := 1) (v := (0 : Int32)) rfl hx (by omega) 5 0 rfl rfl dL_law_1749 dL_law_1750 dL_law_1752 dL_law_1753 dL_law_1754 ?_
      obtain ⟨w2, hk, hw⟩ := zWr_ag (put := (fun v : Int32 => v.toInt64)) (σ 25) (by decide) e3
      refine z_aload_n K.1 dL_law_1755 3 rfl ?_
      refine z_callL (st := []) (ws2 := zLw (zcT C) α (zup (zup (zup (zup (zup σ 4 t4) 5 t5) 6 t6) 7 t7) 25 w2) f) K.1 K.2.1 (metL_kept_0 (zcl C) K.2.1.2.2.2.2.1 (zcD C) (zcT C) (α 0) (α 1) (α 2) (α 3) (α 4) (α 8) (α 12) (α 13) (α 16) (α 19) (α 5) (α 6) (α 7) (α 20) e1 (α 25) hk) zmL_kept zlkL_kept dL_law_1756 [0, 1, 4, 5, 6, 7, 20, 25] rfl rfl [4, 5, 6, 7, 25] rfl (by decide) ⟨zsX9, zsX7, zsX1, zsX4, zsU, trivial⟩ rfl rfl rfl (Nat.le_of_ble_eq_true rfl) rfl rfl ⟨(Nat.le_of_ble_eq_true rfl), (Nat.le_of_ble_eq_true rfl)⟩ ⟨by show cells + 0 ≤ 601024; omega, by show slots + 0 ≤ 7293034; omega⟩ ?_
      refine z_istore (lv2 := (6, .int (zgi O2 9)) :: zloc b α i) K.1 dL_law_1759 (by decide) rfl ?_
      refine z_aload_n K.1 dL_law_1761 3 rfl ?_
      refine z_arg K hL (k := 1) (v := (0 : Int32)) rfl hx (by omega) 6 1 rfl rfl dL_law_1762 dL_law_1763 dL_law_1765 dL_law_1766 dL_law_1767 ?_
      refine z_callVi (st := []) (ws2 := zLw (zcT C) α (zup (zup (zup (zup (zup (zup σ 4 t4) 5 t5) 6 t6) 7 t7) 25 w2) 24 O2) f) K.1 (metX12_kept (zcl C) (zcD C) (zcT C) (α 24) e2) zmR_kept zlR_kept dL_law_1768 24 0 13 rfl rfl rfl rfl [24] rfl rfl [24] rfl (by decide) ⟨zsX12, trivial⟩ rfl rfl rfl (Nat.le_of_ble_eq_true rfl) rfl rfl ⟨(Nat.le_of_ble_eq_true rfl), (Nat.le_of_ble_eq_true rfl)⟩ ⟨by show cells + 0 + 0 ≤ 601024; omega, by show slots + 0 + 0 ≤ 7293034; omega⟩ ?_
      refine z_istore (lv2 := (7, .int v) :: (6, .int (zgi O2 9)) :: zloc b α i) K.1 dL_law_1771 (by decide) rfl ?_
      exact ztl_i K rfl hw dL_law_1773 dL_law_1774 dL_law_1777 dL_law_1779 dL_law_1784 dL_law_1786 dL_law_1789 dL_law_1790 dL_law_1791 dL_law_1792 dL_law_1794 dL_law_1795 dL_law_1796 dL_law_1801 (by decide) (show cells + 0 + 0 ≤ 601024 by omega) (show slots + 0 + 0 ≤ 7293034 by omega) (z_wid (show cells + 0 + 0 ≤ cells + 8 by omega) (show slots + 0 + 0 ≤ slots + 64 by omega) (kk _ _ hj))
    · skip
      obtain ⟨v, t4, t5, t6, t7, O2, e1, e2, e3, hj⟩ := zj_kept_1 hJ
      have e3 : zAg [("java/lang/IllegalArgumentException", 1)] (.inr v : String ⊕ Int32) v (zgi O2 9) := Or.inl ⟨rfl, e3⟩
      refine z_aload_n K.1 dL_law_1748 1 rfl ?_
      refine z_arg K hL (k := 1) (v := (1 : Int32)) rfl hx (by omega) 5 0 rfl rfl dL_law_1749 dL_law_1750 dL_law_1752 dL_law_1753 dL_law_1754 ?_
      obtain ⟨w2, hk, hw⟩ := zWr_ag (put := (fun v : Int32 => v.toInt64)) (σ 25) (by decide) e3
      refine z_aload_n K.1 dL_law_1755 3 rfl ?_
      refine z_callL (st := []) (ws2 := zLw (zcT C) α (zup (zup (zup (zup (zup σ 4 t4) 5 t5) 6 t6) 7 t7) 25 w2) f) K.1 K.2.1 (metL_kept_1 (zcl C) K.2.1.2.2.2.2.1 (zcD C) (zcT C) (α 0) (α 1) (α 2) (α 3) (α 4) (α 8) (α 12) (α 13) (α 16) (α 19) (α 5) (α 6) (α 7) (α 20) e1 (α 25) hk) zmL_kept zlkL_kept dL_law_1756 [0, 1, 4, 5, 6, 7, 21, 25] rfl rfl [4, 5, 6, 7, 25] rfl (by decide) ⟨zsX9, zsX7, zsX1, zsX4, zsU, trivial⟩ rfl rfl rfl (Nat.le_of_ble_eq_true rfl) rfl rfl ⟨(Nat.le_of_ble_eq_true rfl), (Nat.le_of_ble_eq_true rfl)⟩ ⟨by show cells + 0 ≤ 601024; omega, by show slots + 0 ≤ 7293034; omega⟩ ?_
      refine z_istore (lv2 := (6, .int (zgi O2 9)) :: zloc b α i) K.1 dL_law_1759 (by decide) rfl ?_
      refine z_aload_n K.1 dL_law_1761 3 rfl ?_
      refine z_arg K hL (k := 1) (v := (1 : Int32)) rfl hx (by omega) 6 1 rfl rfl dL_law_1762 dL_law_1763 dL_law_1765 dL_law_1766 dL_law_1767 ?_
      refine z_callVi (st := []) (ws2 := zLw (zcT C) α (zup (zup (zup (zup (zup (zup σ 4 t4) 5 t5) 6 t6) 7 t7) 25 w2) 24 O2) f) K.1 (metX12_kept (zcl C) (zcD C) (zcT C) (α 24) e2) zmR_kept zlR_kept dL_law_1768 24 0 13 rfl rfl rfl rfl [24] rfl rfl [24] rfl (by decide) ⟨zsX12, trivial⟩ rfl rfl rfl (Nat.le_of_ble_eq_true rfl) rfl rfl ⟨(Nat.le_of_ble_eq_true rfl), (Nat.le_of_ble_eq_true rfl)⟩ ⟨by show cells + 0 + 0 ≤ 601024; omega, by show slots + 0 + 0 ≤ 7293034; omega⟩ ?_
      refine z_istore (lv2 := (7, .int v) :: (6, .int (zgi O2 9)) :: zloc b α i) K.1 dL_law_1771 (by decide) rfl ?_
      exact ztl_i K rfl hw dL_law_1773 dL_law_1774 dL_law_1777 dL_law_1779 dL_law_1784 dL_law_1786 dL_law_1789 dL_law_1790 dL_law_1791 dL_law_1792 dL_law_1794 dL_law_1795 dL_law_1796 dL_law_1801 (by decide) (show cells + 0 + 0 ≤ 601024 by omega) (show slots + 0 + 0 ≤ 7293034 by omega) (z_wid (show cells + 0 + 0 ≤ cells + 8 by omega) (show slots + 0 + 0 ≤ slots + 64 by omega) (kk _ _ hj))
    · skip
      obtain ⟨v, t4, t5, t6, t7, O2, e1, e2, e3, hj⟩ := zj_kept_2 hJ
      have e3 : zAg [("java/lang/IllegalArgumentException", 1)] (.inr v : String ⊕ Int32) v (zgi O2 9) := Or.inl ⟨rfl, e3⟩
      refine z_aload_n K.1 dL_law_1748 1 rfl ?_
      refine z_arg K hL (k := 1) (v := (2 : Int32)) rfl hx (by omega) 5 0 rfl rfl dL_law_1749 dL_law_1750 dL_law_1752 dL_law_1753 dL_law_1754 ?_
      obtain ⟨w2, hk, hw⟩ := zWr_ag (put := (fun v : Int32 => v.toInt64)) (σ 25) (by decide) e3
      refine z_aload_n K.1 dL_law_1755 3 rfl ?_
      refine z_callL (st := []) (ws2 := zLw (zcT C) α (zup (zup (zup (zup (zup σ 4 t4) 5 t5) 6 t6) 7 t7) 25 w2) f) K.1 K.2.1 (metL_kept_2 (zcl C) K.2.1.2.2.2.2.1 (zcD C) (zcT C) (α 0) (α 1) (α 2) (α 3) (α 4) (α 8) (α 12) (α 13) (α 16) (α 19) (α 5) (α 6) (α 7) (α 20) e1 (α 25) hk) zmL_kept zlkL_kept dL_law_1756 [0, 1, 4, 5, 6, 7, 22, 25] rfl rfl [4, 5, 6, 7, 25] rfl (by decide) ⟨zsX9, zsX7, zsX1, zsX4, zsU, trivial⟩ rfl rfl rfl (Nat.le_of_ble_eq_true rfl) rfl rfl ⟨(Nat.le_of_ble_eq_true rfl), (Nat.le_of_ble_eq_true rfl)⟩ ⟨by show cells + 0 ≤ 601024; omega, by show slots + 0 ≤ 7293034; omega⟩ ?_
      refine z_istore (lv2 := (6, .int (zgi O2 9)) :: zloc b α i) K.1 dL_law_1759 (by decide) rfl ?_
      refine z_aload_n K.1 dL_law_1761 3 rfl ?_
      refine z_arg K hL (k := 1) (v := (2 : Int32)) rfl hx (by omega) 6 1 rfl rfl dL_law_1762 dL_law_1763 dL_law_1765 dL_law_1766 dL_law_1767 ?_
      refine z_callVi (st := []) (ws2 := zLw (zcT C) α (zup (zup (zup (zup (zup (zup σ 4 t4) 5 t5) 6 t6) 7 t7) 25 w2) 24 O2) f) K.1 (metX12_kept (zcl C) (zcD C) (zcT C) (α 24) e2) zmR_kept zlR_kept dL_law_1768 24 0 13 rfl rfl rfl rfl [24] rfl rfl [24] rfl (by decide) ⟨zsX12, trivial⟩ rfl rfl rfl (Nat.le_of_ble_eq_true rfl) rfl rfl ⟨(Nat.le_of_ble_eq_true rfl), (Nat.le_of_ble_eq_true rfl)⟩ ⟨by show cells + 0 + 0 ≤ 601024; omega, by show slots + 0 + 0 ≤ 7293034; omega⟩ ?_
      refine z_istore (lv2 := (7, .int v) :: (6, .int (zgi O2 9)) :: zloc b α i) K.1 dL_law_1771 (by decide) rfl ?_
      exact ztl_i K rfl hw dL_law_1773 dL_law_1774 dL_law_1777 dL_law_1779 dL_law_1784 dL_law_1786 dL_law_1789 dL_law_1790 dL_law_1791 dL_law_1792 dL_law_1794 dL_law_1795 dL_law_1796 dL_law_1801 (by decide) (show cells + 0 + 0 ≤ 601024 by omega) (show slots + 0 + 0 ≤ 7293034 by omega) (z_wid (show cells + 0 + 0 ≤ cells + 8 by omega) (show slots + 0 + 0 ≤ slots + 64 by omega) (kk _ _ hj))
    · skip
      obtain ⟨v, t4, t5, t6, t7, O2, e1, e2, e3, hj⟩ := zj_kept_3 hJ
      have e3 : zAg [("java/lang/IllegalArgumentException", 1)] (.inr v : String ⊕ Int32) v (zgi O2 9) := Or.inl ⟨rfl, e3⟩
      refine z_aload_n K.1 dL_law_1748 1 rfl ?_
      refine z_arg K hL (k := 1) (v := (3 : Int32)) rfl hx (by omega) 5 0 rfl rfl dL_law_1749 dL_law_1750 dL_law_1752 dL_law_1753 dL_law_1754 ?_
      obtain ⟨w2, hk, hw⟩ := zWr_ag (put := (fun v : Int32 => v.toInt64)) (σ 25) (by decide) e3
      refine z_aload_n K.1 dL_law_1755 3 rfl ?_
      refine z_callL (st := []) (ws2 := zLw (zcT C) α (zup (zup (zup (zup (zup σ 4 t4) 5 t5) 6 t6) 7 t7) 25 w2) f) K.1 K.2.1 (metL_kept_3 (zcl C) K.2.1.2.2.2.2.1 (zcD C) (zcT C) (α 0) (α 1) (α 2) (α 3) (α 4) (α 8) (α 12) (α 13) (α 16) (α 19) (α 5) (α 6) (α 7) (α 20) e1 (α 25) hk) zmL_kept zlkL_kept dL_law_1756 [0, 1, 4, 5, 6, 7, 23, 25] rfl rfl [4, 5, 6, 7, 25] rfl (by decide) ⟨zsX9, zsX7, zsX1, zsX4, zsU, trivial⟩ rfl rfl rfl (Nat.le_of_ble_eq_true rfl) rfl rfl ⟨(Nat.le_of_ble_eq_true rfl), (Nat.le_of_ble_eq_true rfl)⟩ ⟨by show cells + 0 ≤ 601024; omega, by show slots + 0 ≤ 7293034; omega⟩ ?_
      refine z_istore (lv2 := (6, .int (zgi O2 9)) :: zloc b α i) K.1 dL_law_1759 (by decide) rfl ?_
      refine z_aload_n K.1 dL_law_1761 3 rfl ?_
      refine z_arg K hL (k := 1) (v := (3 : Int32)) rfl hx (by omega) 6 1 rfl rfl dL_law_1762 dL_law_1763 dL_law_1765 dL_law_1766 dL_law_1767 ?_
      refine z_callVi (st := []) (ws2 := zLw (zcT C) α (zup (zup (zup (zup (zup (zup σ 4 t4) 5 t5) 6 t6) 7 t7) 25 w2) 24 O2) f) K.1 (metX12_kept (zcl C) (zcD C) (zcT C) (α 24) e2) zmR_kept zlR_kept dL_law_1768 24 0 13 rfl rfl rfl rfl [24] rfl rfl [24] rfl (by decide) ⟨zsX12, trivial⟩ rfl rfl rfl (Nat.le_of_ble_eq_true rfl) rfl rfl ⟨(Nat.le_of_ble_eq_true rfl), (Nat.le_of_ble_eq_true rfl)⟩ ⟨by show cells + 0 + 0 ≤ 601024; omega, by show slots + 0 + 0 ≤ 7293034; omega⟩ ?_
      refine z_istore (lv2 := (7, .int v) :: (6, .int (zgi O2 9)) :: zloc b α i) K.1 dL_law_1771 (by decide) rfl ?_
      exact ztl_i K rfl hw dL_law_1773 dL_law_1774 dL_law_1777 dL_law_1779 dL_law_1784 dL_law_1786 dL_law_1789 dL_law_1790 dL_law_1791 dL_law_1792 dL_law_1794 dL_law_1795 dL_law_1796 dL_law_1801 (by decide) (show cells + 0 + 0 ≤ 601024 by omega) (show slots + 0 + 0 ≤ 7293034 by omega) (z_wid (show cells + 0 + 0 ≤ cells + 8 by omega) (show slots + 0 + 0 ≤ slots + 64 by omega) (kk _ _ hj))

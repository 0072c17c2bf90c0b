/-! 9ze2: what each call makes of the joint state. Written by wip/gen/mklaw3.py. -/
theorem zj_addVariable {σ : Nat → zSt} (h : zJ σ) (x1 x2 : Int32) : ∃ r v t1 t4 t13 t16 O2, fX11_addVariable (σ 0) (σ 1) (σ 4) (σ 13) (σ 16) x1 x2 = some (r, t1, t4, t13, t16) ∧ fX12_addVariable (σ 24) x1 x2 = some (v, O2) ∧ zAg [("java/lang/IllegalArgumentException", 1), ("java/lang/IllegalStateException", 2)] r v (zgi O2 9) ∧ zJx t13 t1 (σ 2) t4 (σ 5) (σ 6) (σ 7) (σ 14) t16 (σ 17) (σ 18) (σ 20) (σ 21) (σ 22) (σ 23) O2 := by
  obtain ⟨n, m, q, len, h⟩ := h
  obtain ⟨r, v, ⟨t4, t13, t16⟩, t1, O2, e1, e2, e3, e4⟩ := zcall_addVariable (C := σ 0) (W := σ 4) (K := σ 13) (Z := σ 16) h.1 h.2.1 h.2.2.1 x1 x2
  exact ⟨r, v, t1, t4, t13, t16, O2, e1, e2, e3, zJ0_k h e4⟩
theorem zj_setLeast {σ : Nat → zSt} (h : zJ σ) (x1 x2 : Int32) : ∃ r v t1 t4 t13 t16 O2, fX11_setLeast (σ 0) (σ 1) (σ 4) (σ 13) (σ 16) x1 x2 = some (r, t1, t4, t13, t16) ∧ fX12_setLeast (σ 24) x1 x2 = some (v, O2) ∧ zAg [("java/lang/IndexOutOfBoundsException", 1), ("java/lang/IllegalArgumentException", 2)] r v (zgi O2 9) ∧ zJx t13 t1 (σ 2) t4 (σ 5) (σ 6) (σ 7) (σ 14) t16 (σ 17) (σ 18) (σ 20) (σ 21) (σ 22) (σ 23) O2 := by
  obtain ⟨n, m, q, len, h⟩ := h
  obtain ⟨r, v, ⟨t4, t13, t16⟩, t1, O2, e1, e2, e3, e4⟩ := zcall_setLeast (C := σ 0) (W := σ 4) (K := σ 13) (Z := σ 16) h.1 h.2.1 h.2.2.1 x1 x2
  exact ⟨r, v, t1, t4, t13, t16, O2, e1, e2, e3, zJ0_k h e4⟩
theorem zj_setGreatest {σ : Nat → zSt} (h : zJ σ) (x1 x2 : Int32) : ∃ r v t1 t4 t13 t16 O2, fX11_setGreatest (σ 0) (σ 1) (σ 4) (σ 13) (σ 16) x1 x2 = some (r, t1, t4, t13, t16) ∧ fX12_setGreatest (σ 24) x1 x2 = some (v, O2) ∧ zAg [("java/lang/IndexOutOfBoundsException", 1), ("java/lang/IllegalArgumentException", 2)] r v (zgi O2 9) ∧ zJx t13 t1 (σ 2) t4 (σ 5) (σ 6) (σ 7) (σ 14) t16 (σ 17) (σ 18) (σ 20) (σ 21) (σ 22) (σ 23) O2 := by
  obtain ⟨n, m, q, len, h⟩ := h
  obtain ⟨r, v, ⟨t4, t13, t16⟩, t1, O2, e1, e2, e3, e4⟩ := zcall_setGreatest (C := σ 0) (W := σ 4) (K := σ 13) (Z := σ 16) h.1 h.2.1 h.2.2.1 x1 x2
  exact ⟨r, v, t1, t4, t13, t16, O2, e1, e2, e3, zJ0_k h e4⟩
theorem zj_type {σ : Nat → zSt} (h : zJ σ) (x1 : Int32) : ∃ r v t2 O2, fX11_type (σ 0) (σ 2) x1 = some (r, t2) ∧ fX12_type (σ 24) x1 = some (v, O2) ∧ zAg [("java/lang/IllegalArgumentException", 1), ("java/lang/IllegalStateException", 2)] r v (zgi O2 9) ∧ zJx (σ 13) (σ 1) t2 (σ 4) (σ 5) (σ 6) (σ 7) (σ 14) (σ 16) (σ 17) (σ 18) (σ 20) (σ 21) (σ 22) (σ 23) O2 := by
  obtain ⟨n, m, q, len, h⟩ := h
  obtain ⟨r, v, t2, O2, e1, e2, e3, e4⟩ := zcall_type (C := σ 0) h.2.1 h.2.2.1 x1
  exact ⟨r, v, t2, O2, e1, e2, e3, (zJ0_t h e4).elim fun len2 j => ⟨n, m, q, len2, j⟩⟩
theorem zj_erase {σ : Nat → zSt} (h : zJ σ) : ∃ v t2 O2, fX11_erase (σ 0) (σ 2) = some (v, t2) ∧ fX12_erase (σ 24) = some (v, O2) ∧ zJx (σ 13) (σ 1) t2 (σ 4) (σ 5) (σ 6) (σ 7) (σ 14) (σ 16) (σ 17) (σ 18) (σ 20) (σ 21) (σ 22) (σ 23) O2 := by
  obtain ⟨n, m, q, len, h⟩ := h
  obtain ⟨v, t2, O2, e1, e2, e4⟩ := zcall_erase (C := σ 0) h.2.1 h.2.2.1
  exact ⟨v, t2, O2, e1, e2, (zJ0_t h e4).elim fun len2 j => ⟨n, m, q, len2, j⟩⟩
theorem zj_fault {σ : Nat → zSt} (h : zJ σ) : ∃ v t2 O2, fX11_fault (σ 0) (σ 1) (σ 2) = some (v, t2) ∧ fX12_fault (σ 24) = some (v, O2) ∧ zJx (σ 13) (σ 1) t2 (σ 4) (σ 5) (σ 6) (σ 7) (σ 14) (σ 16) (σ 17) (σ 18) (σ 20) (σ 21) (σ 22) (σ 23) O2 := by
  obtain ⟨n, m, q, len, h⟩ := h
  obtain ⟨v, t2, O2, e1, e2, e4⟩ := zcall_fault (C := σ 0) h.1 h.2.1 h.2.2.1
  exact ⟨v, t2, O2, e1, e2, (zJ0_t h e4).elim fun len2 j => ⟨n, m, q, len2, j⟩⟩
theorem zj_faultAt {σ : Nat → zSt} (h : zJ σ) : ∃ r v t2 O2, fX11_faultAt (σ 0) (σ 1) (σ 2) = some (r, t2) ∧ fX12_faultAt (σ 24) = some (v, O2) ∧ zAg [("java/util/NoSuchElementException", 1)] r v (zgi O2 9) ∧ zJx (σ 13) (σ 1) t2 (σ 4) (σ 5) (σ 6) (σ 7) (σ 14) (σ 16) (σ 17) (σ 18) (σ 20) (σ 21) (σ 22) (σ 23) O2 := by
  obtain ⟨n, m, q, len, h⟩ := h
  obtain ⟨r, v, t2, O2, e1, e2, e3, e4⟩ := zcall_faultAt (C := σ 0) h.1 h.2.1 h.2.2.1
  exact ⟨r, v, t2, O2, e1, e2, e3, (zJ0_t h e4).elim fun len2 j => ⟨n, m, q, len2, j⟩⟩
theorem zj_isAim {σ : Nat → zSt} (h : zJ σ) : ∃ v O2, fX11_isAim (σ 0) (σ 2) = some v ∧ fX12_isAim (σ 24) = some (v, O2) ∧ zJx (σ 13) (σ 1) (σ 2) (σ 4) (σ 5) (σ 6) (σ 7) (σ 14) (σ 16) (σ 17) (σ 18) (σ 20) (σ 21) (σ 22) (σ 23) O2 := by
  obtain ⟨n, m, q, len, h⟩ := h
  obtain ⟨v, e1, e2⟩ := zcall_isAim (C := σ 0) h.2.2.1
  exact ⟨v, _, e1, e2, n, m, q, len, zJ0_c h zFc_9 h.2.2.2.1⟩
theorem zj_tell {σ : Nat → zSt} (h : zJ σ) : ∃ r v t1 t2 t4 t13 t16 O2, fX11_tell (σ 0) (σ 1) (σ 2) (σ 4) (σ 13) (σ 16) = some (r, t1, t2, t4, t13, t16) ∧ fX12_tell (σ 24) = some (v, O2) ∧ zAg [("java/lang/UnsupportedOperationException", 1), ("java/lang/IllegalStateException", 2)] r v (zgi O2 9) ∧ zJx t13 t1 t2 t4 (σ 5) (σ 6) (σ 7) (σ 14) t16 (σ 17) (σ 18) (σ 20) (σ 21) (σ 22) (σ 23) O2 := by
  obtain ⟨n, m, q, len, h⟩ := h
  obtain ⟨r, v, ⟨t4, t13, t16⟩, t1, t2, O2, m2, q2, len2, e1, e2, e3, k1, k2, k3, k4, k5⟩ := ztell (C := σ 0) (W := σ 4) (K := σ 13) (Z := σ 16) h.1 h.2.1 h.2.2.1
  refine ⟨r, v, t1, t2, t4, t13, t16, O2, e1, e2, e3, ?_⟩
  exact zJ0_k h ⟨n, m2, q2, len2, k1, k2, k3, k4, k5.elim (fun g => Or.inl ⟨rfl, g⟩) Or.inr⟩
theorem zj_dropRow {σ : Nat → zSt} (h : zJ σ) (x1 : Int32) : ∃ r v t1 t4 t13 t16 O2, fX11_dropRow (σ 0) (σ 1) (σ 4) (σ 13) (σ 16) x1 = some (r, t1, t4, t13, t16) ∧ fX12_dropRow (σ 24) x1 = some (v, O2) ∧ zAg [("java/lang/IndexOutOfBoundsException", 1), ("java/lang/IllegalStateException", 2)] r v (zgi O2 9) ∧ zJx t13 t1 (σ 2) t4 (σ 5) (σ 6) (σ 7) (σ 14) t16 (σ 17) (σ 18) (σ 20) (σ 21) (σ 22) (σ 23) O2 := by
  obtain ⟨n, m, q, len, h⟩ := h
  obtain ⟨r, v, ⟨t4, t13, t16⟩, t1, O2, e1, e2, e3, e4⟩ := zcall_dropRow (C := σ 0) (W := σ 4) (K := σ 13) (Z := σ 16) h.1 h.2.1 h.2.2.1 x1
  exact ⟨r, v, t1, t4, t13, t16, O2, e1, e2, e3, zJ0_k h e4⟩
theorem zj_setNumber {σ : Nat → zSt} (h : zJ σ) (x1 x2 : Int32) : ∃ r v t1 t4 t13 t16 O2, fX11_setNumber (σ 0) (σ 1) (σ 4) (σ 13) (σ 16) x1 x2 = some (r, t1, t4, t13, t16) ∧ fX12_setNumber (σ 24) x1 x2 = some (v, O2) ∧ zAg [("java/lang/IndexOutOfBoundsException", 1), ("java/lang/IllegalArgumentException", 2), ("java/lang/IllegalStateException", 3)] r v (zgi O2 9) ∧ zJx t13 t1 (σ 2) t4 (σ 5) (σ 6) (σ 7) (σ 14) t16 (σ 17) (σ 18) (σ 20) (σ 21) (σ 22) (σ 23) O2 := by
  obtain ⟨n, m, q, len, h⟩ := h
  obtain ⟨r, v, ⟨t4, t13, t16⟩, t1, O2, e1, e2, e3, e4⟩ := zcall_setNumber (C := σ 0) (W := σ 4) (K := σ 13) (Z := σ 16) h.1 h.2.1 h.2.2.1 x1 x2
  exact ⟨r, v, t1, t4, t13, t16, O2, e1, e2, e3, zJ0_k h e4⟩
theorem zj_dropAims {σ : Nat → zSt} (h : zJ σ) : ∃ v t1 t4 t13 t16 O2, fX11_dropAims (σ 0) (σ 1) (σ 4) (σ 13) (σ 16) = some (v, t1, t4, t13, t16) ∧ fX12_dropAims (σ 24) = some (v, O2) ∧ zJx t13 t1 (σ 2) t4 (σ 5) (σ 6) (σ 7) (σ 14) t16 (σ 17) (σ 18) (σ 20) (σ 21) (σ 22) (σ 23) O2 := by
  obtain ⟨n, m, q, len, h⟩ := h
  obtain ⟨v, ⟨t4, t13, t16⟩, t1, O2, e1, e2, e4⟩ := zcall_dropAims (C := σ 0) (W := σ 4) (K := σ 13) (Z := σ 16) h.1 h.2.1 h.2.2.1
  exact ⟨v, t1, t4, t13, t16, O2, e1, e2, zJ0_k h e4⟩
theorem zj_coefficient {σ : Nat → zSt} (h : zJ σ) (x1 x2 : Int32) : ∃ r v O2, fX11_coefficient (σ 0) (σ 1) x1 x2 = some r ∧ fX12_coefficient (σ 24) x1 x2 = some (v, O2) ∧ zAg [("java/lang/IndexOutOfBoundsException", 1)] r v (zgi O2 9) ∧ zJx (σ 13) (σ 1) (σ 2) (σ 4) (σ 5) (σ 6) (σ 7) (σ 14) (σ 16) (σ 17) (σ 18) (σ 20) (σ 21) (σ 22) (σ 23) O2 := by
  obtain ⟨n, m, q, len, h⟩ := h
  obtain ⟨r, v, c, e1, e2, e3⟩ := zcall_coefficient (C := σ 0) h.1 h.2.1 x1 x2
  exact ⟨r, v, _, e1, e2, by rw [gi_si]; exact e3, n, m, q, len, zJ0_c h zFc_9 h.2.2.2.1⟩
theorem zj_relation {σ : Nat → zSt} (h : zJ σ) (x1 : Int32) : ∃ r v O2, fX11_relation (σ 0) (σ 1) x1 = some r ∧ fX12_relation (σ 24) x1 = some (v, O2) ∧ zAg [("java/lang/IndexOutOfBoundsException", 1)] r v (zgi O2 9) ∧ zJx (σ 13) (σ 1) (σ 2) (σ 4) (σ 5) (σ 6) (σ 7) (σ 14) (σ 16) (σ 17) (σ 18) (σ 20) (σ 21) (σ 22) (σ 23) O2 := by
  obtain ⟨n, m, q, len, h⟩ := h
  obtain ⟨r, v, c, e1, e2, e3⟩ := zcall_relation (C := σ 0) h.1 h.2.1 x1
  exact ⟨r, v, _, e1, e2, by rw [gi_si]; exact e3, n, m, q, len, zJ0_c h zFc_9 h.2.2.2.1⟩
theorem zj_lineLength {σ : Nat → zSt} (h : zJ σ) (x1 : Int32) : ∃ r v t3 O2, fX11_lineLength (σ 0) (σ 1) (σ 3) x1 = some (r, t3) ∧ fX12_lineLength (σ 24) x1 = some (v, O2) ∧ zAg [("java/lang/IndexOutOfBoundsException", 1)] r v (zgi O2 9) ∧ zJx (σ 13) (σ 1) (σ 2) (σ 4) (σ 5) (σ 6) (σ 7) (σ 14) (σ 16) (σ 17) (σ 18) (σ 20) (σ 21) (σ 22) (σ 23) O2 := by
  obtain ⟨n, m, q, len, h⟩ := h
  obtain ⟨r, v, t3, O2, e1, e2, e3, e4⟩ := zcall_lineLength (C := σ 0) (L := σ 3) h.1 h.2.1 x1
  exact ⟨r, v, t3, O2, e1, e2, e3, ⟨n, m, q, len, zJ0_c h e4 h.2.2.2.1⟩⟩
theorem zj_lineAt {σ : Nat → zSt} (h : zJ σ) (x1 x2 : Int32) : ∃ r v t3 O2, fX11_lineAt (σ 0) (σ 1) (σ 3) x1 x2 = some (r, t3) ∧ fX12_lineAt (σ 24) x1 x2 = some (v, O2) ∧ zAg [("java/lang/IndexOutOfBoundsException", 1)] r v (zgi O2 9) ∧ zJx (σ 13) (σ 1) (σ 2) (σ 4) (σ 5) (σ 6) (σ 7) (σ 14) (σ 16) (σ 17) (σ 18) (σ 20) (σ 21) (σ 22) (σ 23) O2 := by
  obtain ⟨n, m, q, len, h⟩ := h
  obtain ⟨r, v, t3, O2, e1, e2, e3, e4⟩ := zcall_lineAt (C := σ 0) (L := σ 3) h.1 h.2.1 x1 x2
  exact ⟨r, v, t3, O2, e1, e2, e3, ⟨n, m, q, len, zJ0_c h e4 h.2.2.2.1⟩⟩
theorem zj_state {σ : Nat → zSt} (h : zJ σ) : ∃ v t4 t5 t6 t7 O2, fX11_state (σ 0) (σ 1) (σ 4) (σ 5) (σ 6) (σ 7) = some (v, t4, t5, t6, t7) ∧ fX12_state (σ 24) = some (v, O2) ∧ zJx (σ 13) (σ 1) (σ 2) t4 t5 t6 t7 (σ 14) (σ 16) (σ 17) (σ 18) (σ 20) (σ 21) (σ 22) (σ 23) O2 := by
  obtain ⟨n, m, q, len, h⟩ := h
  obtain ⟨v, t4, t5, t6, t7, O2, e1, e2, e4, e5⟩ := zcall_state (C := σ 0) h.1 h.2.1 h.2.2.2.1
  exact ⟨v, t4, t5, t6, t7, O2, e1, e2, ⟨n, m, q, len, zJ0_c h e4 e5⟩⟩
theorem zj_open {σ : Nat → zSt} (h : zJ σ) : ∃ r v t4 t5 t6 t7 O2, fX11_open (σ 0) (σ 1) (σ 4) (σ 5) (σ 6) (σ 7) = some (r, t4, t5, t6, t7) ∧ fX12_open (σ 24) = some (v, O2) ∧ zAg [("java/util/NoSuchElementException", 1)] r v (zgi O2 9) ∧ zJx (σ 13) (σ 1) (σ 2) t4 t5 t6 t7 (σ 14) (σ 16) (σ 17) (σ 18) (σ 20) (σ 21) (σ 22) (σ 23) O2 := by
  obtain ⟨n, m, q, len, h⟩ := h
  obtain ⟨r, v, t4, t5, t6, t7, O2, e1, e2, e3, e4, e5⟩ := zcall_open (C := σ 0) h.1 h.2.1 h.2.2.2.1
  exact ⟨r, v, t4, t5, t6, t7, O2, e1, e2, e3, ⟨n, m, q, len, zJ0_c h e4 e5⟩⟩
theorem zj_valueTop {σ : Nat → zSt} (h : zJ σ) (x1 : Int32) : ∃ r v t4 t5 t6 t7 t19 O2, fX11_valueTop (σ 0) (σ 1) (σ 4) (σ 5) (σ 6) (σ 7) (σ 19) x1 = some (r, t4, t5, t6, t7, t19) ∧ fX12_valueTop (σ 24) x1 = some (v, O2) ∧ zAg [("java/lang/IndexOutOfBoundsException", 1), ("java/util/NoSuchElementException", 2)] r v (zgi O2 9) ∧ zJx (σ 13) (σ 1) (σ 2) t4 t5 t6 t7 (σ 14) (σ 16) (σ 17) (σ 18) (σ 20) (σ 21) (σ 22) (σ 23) O2 := by
  obtain ⟨n, m, q, len, h⟩ := h
  obtain ⟨r, v, t4, t5, t6, t7, t19, O2, e1, e2, e3, e4, e5⟩ := zcall_valueTop (C := σ 0) (R := σ 19) h.1 h.2.1 h.2.2.2.1 x1
  exact ⟨r, v, t4, t5, t6, t7, t19, O2, e1, e2, e3, ⟨n, m, q, len, zJ0_c h e4 e5⟩⟩
theorem zj_valueBottom {σ : Nat → zSt} (h : zJ σ) (x1 : Int32) : ∃ r v t4 t5 t6 t7 t19 O2, fX11_valueBottom (σ 0) (σ 1) (σ 4) (σ 5) (σ 6) (σ 7) (σ 19) x1 = some (r, t4, t5, t6, t7, t19) ∧ fX12_valueBottom (σ 24) x1 = some (v, O2) ∧ zAg [("java/lang/IndexOutOfBoundsException", 1), ("java/util/NoSuchElementException", 2)] r v (zgi O2 9) ∧ zJx (σ 13) (σ 1) (σ 2) t4 t5 t6 t7 (σ 14) (σ 16) (σ 17) (σ 18) (σ 20) (σ 21) (σ 22) (σ 23) O2 := by
  obtain ⟨n, m, q, len, h⟩ := h
  obtain ⟨r, v, t4, t5, t6, t7, t19, O2, e1, e2, e3, e4, e5⟩ := zcall_valueBottom (C := σ 0) (R := σ 19) h.1 h.2.1 h.2.2.2.1 x1
  exact ⟨r, v, t4, t5, t6, t7, t19, O2, e1, e2, e3, ⟨n, m, q, len, zJ0_c h e4 e5⟩⟩
theorem zj_topByPoints {σ : Nat → zSt} (h : zJ σ) (x1 : Int32) : ∃ r v t4 t5 t6 t7 t13 t14 t15 t19 O2, fX11_topByPoints (σ 0) (σ 1) (σ 4) (σ 5) (σ 6) (σ 7) (σ 13) (σ 14) (σ 15) (σ 19) x1 = some (r, t4, t5, t6, t7, t13, t14, t15, t19) ∧ fX12_topByPoints (σ 24) x1 = some (v, O2) ∧ zAg [("java/lang/IndexOutOfBoundsException", 1), ("java/util/NoSuchElementException", 2)] r v (zgi O2 9) ∧ zJx t13 (σ 1) (σ 2) t4 t5 t6 t7 t14 (σ 16) (σ 17) (σ 18) (σ 20) (σ 21) (σ 22) (σ 23) O2 := by
  obtain ⟨n, m, q, len, h⟩ := h
  obtain ⟨r, v, t4, t5, t6, t7, t13, t14, t15, t19, O2, e1, e2, e3, e4, e5⟩ := zcall_topByPoints (C := σ 0) (R := σ 19) (K := σ 13) (G := σ 15) h.1 h.2.1 h.2.2.2.1 x1
  exact ⟨r, v, t4, t5, t6, t7, t13, t14, t15, t19, O2, e1, e2, e3, ⟨n, m, q, len, zJ0_c h e4 e5⟩⟩
theorem zj_pointTop {σ : Nat → zSt} (h : zJ σ) (x1 : Int32) : ∃ r v t4 t5 t6 t7 t19 O2, fX11_pointTop (σ 0) (σ 1) (σ 4) (σ 5) (σ 6) (σ 7) (σ 19) x1 = some (r, t4, t5, t6, t7, t19) ∧ fX12_pointTop (σ 24) x1 = some (v, O2) ∧ zAg [("java/lang/IndexOutOfBoundsException", 1), ("java/util/NoSuchElementException", 2)] r v (zgi O2 9) ∧ zJx (σ 13) (σ 1) (σ 2) t4 t5 t6 t7 (σ 14) (σ 16) (σ 17) (σ 18) (σ 20) (σ 21) (σ 22) (σ 23) O2 := by
  obtain ⟨n, m, q, len, h⟩ := h
  obtain ⟨r, v, t4, t5, t6, t7, t19, O2, e1, e2, e3, e4, e5⟩ := zcall_pointTop (C := σ 0) (R := σ 19) h.1 h.2.1 h.2.2.2.1 x1
  exact ⟨r, v, t4, t5, t6, t7, t19, O2, e1, e2, e3, ⟨n, m, q, len, zJ0_c h e4 e5⟩⟩
theorem zj_pointBottom {σ : Nat → zSt} (h : zJ σ) (x1 : Int32) : ∃ r v t4 t5 t6 t7 t19 O2, fX11_pointBottom (σ 0) (σ 1) (σ 4) (σ 5) (σ 6) (σ 7) (σ 19) x1 = some (r, t4, t5, t6, t7, t19) ∧ fX12_pointBottom (σ 24) x1 = some (v, O2) ∧ zAg [("java/lang/IndexOutOfBoundsException", 1), ("java/util/NoSuchElementException", 2)] r v (zgi O2 9) ∧ zJx (σ 13) (σ 1) (σ 2) t4 t5 t6 t7 (σ 14) (σ 16) (σ 17) (σ 18) (σ 20) (σ 21) (σ 22) (σ 23) O2 := by
  obtain ⟨n, m, q, len, h⟩ := h
  obtain ⟨r, v, t4, t5, t6, t7, t19, O2, e1, e2, e3, e4, e5⟩ := zcall_pointBottom (C := σ 0) (R := σ 19) h.1 h.2.1 h.2.2.2.1 x1
  exact ⟨r, v, t4, t5, t6, t7, t19, O2, e1, e2, e3, ⟨n, m, q, len, zJ0_c h e4 e5⟩⟩
theorem zj_isTight {σ : Nat → zSt} (h : zJ σ) (x1 : Int32) : ∃ r v t4 t5 t6 t7 O2, fX11_isTight (σ 0) (σ 1) (σ 4) (σ 5) (σ 6) (σ 7) x1 = some (r, t4, t5, t6, t7) ∧ fX12_isTight (σ 24) x1 = some (v, O2) ∧ zAg [("java/lang/IndexOutOfBoundsException", 1), ("java/lang/IllegalStateException", 2), ("java/util/NoSuchElementException", 3)] r v (zgi O2 9) ∧ (v = 0 ∨ v = 1) ∧ zJx (σ 13) (σ 1) (σ 2) t4 t5 t6 t7 (σ 14) (σ 16) (σ 17) (σ 18) (σ 20) (σ 21) (σ 22) (σ 23) O2 := by
  obtain ⟨n, m, q, len, h⟩ := h
  obtain ⟨r, v, t4, t5, t6, t7, O2, e1, e2, e3, e6, e4, e5⟩ := zcall_isTight (C := σ 0) h.1 h.2.1 h.2.2.2.1 x1
  exact ⟨r, v, t4, t5, t6, t7, O2, e1, e2, e3, e6, ⟨n, m, q, len, zJ0_c h e4 e5⟩⟩
theorem zj_tight {σ : Nat → zSt} (h : zJ σ) : ∃ r v t4 t5 t6 t7 O2, fX11_tight (σ 0) (σ 1) (σ 4) (σ 5) (σ 6) (σ 7) = some (r, t4, t5, t6, t7) ∧ fX12_tight (σ 24) = some (v, O2) ∧ zAg [("java/util/NoSuchElementException", 1)] r v (zgi O2 9) ∧ zJx (σ 13) (σ 1) (σ 2) t4 t5 t6 t7 (σ 14) (σ 16) (σ 17) (σ 18) (σ 20) (σ 21) (σ 22) (σ 23) O2 := by
  obtain ⟨n, m, q, len, h⟩ := h
  obtain ⟨r, v, t4, t5, t6, t7, O2, e1, e2, e3, e4, e5⟩ := zcall_tight (C := σ 0) h.1 h.2.1 h.2.2.2.1
  exact ⟨r, v, t4, t5, t6, t7, O2, e1, e2, e3, ⟨n, m, q, len, zJ0_c h e4 e5⟩⟩
theorem zj_isProved {σ : Nat → zSt} (h : zJ σ) : ∃ v t4 t5 t6 t7 t12 O2, fX11_isProved (σ 0) (σ 1) (σ 4) (σ 5) (σ 6) (σ 7) (σ 12) = some (v, t4, t5, t6, t7, t12) ∧ fX12_isProved (σ 24) = some (v, O2) ∧ zJx (σ 13) (σ 1) (σ 2) t4 t5 t6 t7 (σ 14) (σ 16) (σ 17) (σ 18) (σ 20) (σ 21) (σ 22) (σ 23) O2 := by
  obtain ⟨n, m, q, len, h⟩ := h
  obtain ⟨t4, t5, t6, t7, t12, e1, e2, e3⟩ := zcall_isProved (C := σ 0) (F := σ 12) h.1 h.2.1 h.2.2.2.1
  exact ⟨_, t4, t5, t6, t7, t12, _, e1, e2, n, m, q, len, zJ0_c h zFc_9 e3⟩
theorem zj_worthTop {σ : Nat → zSt} (h : zJ σ) (x1 : Int32) : ∃ r v t4 t5 t6 t7 t8 t9 t10 t11 t19 O2, fX11_worthTop (σ 0) (σ 1) (σ 4) (σ 5) (σ 6) (σ 7) (σ 8) (σ 9) (σ 10) (σ 11) (σ 19) x1 = some (r, t4, t5, t6, t7, t8, t9, t10, t11, t19) ∧ fX12_worthTop (σ 24) x1 = some (v, O2) ∧ zAg [("java/lang/IndexOutOfBoundsException", 1), ("java/lang/IllegalStateException", 2), ("java/util/NoSuchElementException", 3)] r v (zgi O2 9) ∧ zJx (σ 13) (σ 1) (σ 2) t4 t5 t6 t7 (σ 14) (σ 16) (σ 17) (σ 18) (σ 20) (σ 21) (σ 22) (σ 23) O2 := by
  obtain ⟨n, m, q, len, h⟩ := h
  obtain ⟨r, v, t4, t5, t6, t7, t8, t9, t10, t11, t19, O2, e1, e2, e3, e4, e5⟩ := zcall_worthTop (C := σ 0) (R := σ 19) (V := σ 8) (sV := σ 9) (dV := σ 10) (qV := σ 11) h.1 h.2.1 h.2.2.2.1 x1
  exact ⟨r, v, t4, t5, t6, t7, t8, t9, t10, t11, t19, O2, e1, e2, e3, ⟨n, m, q, len, zJ0_c h e4 e5⟩⟩
theorem zj_worthBottom {σ : Nat → zSt} (h : zJ σ) (x1 : Int32) : ∃ r v t4 t5 t6 t7 t8 t9 t10 t11 t19 O2, fX11_worthBottom (σ 0) (σ 1) (σ 4) (σ 5) (σ 6) (σ 7) (σ 8) (σ 9) (σ 10) (σ 11) (σ 19) x1 = some (r, t4, t5, t6, t7, t8, t9, t10, t11, t19) ∧ fX12_worthBottom (σ 24) x1 = some (v, O2) ∧ zAg [("java/lang/IndexOutOfBoundsException", 1), ("java/lang/IllegalStateException", 2), ("java/util/NoSuchElementException", 3)] r v (zgi O2 9) ∧ zJx (σ 13) (σ 1) (σ 2) t4 t5 t6 t7 (σ 14) (σ 16) (σ 17) (σ 18) (σ 20) (σ 21) (σ 22) (σ 23) O2 := by
  obtain ⟨n, m, q, len, h⟩ := h
  obtain ⟨r, v, t4, t5, t6, t7, t8, t9, t10, t11, t19, O2, e1, e2, e3, e4, e5⟩ := zcall_worthBottom (C := σ 0) (R := σ 19) (V := σ 8) (sV := σ 9) (dV := σ 10) (qV := σ 11) h.1 h.2.1 h.2.2.2.1 x1
  exact ⟨r, v, t4, t5, t6, t7, t8, t9, t10, t11, t19, O2, e1, e2, e3, ⟨n, m, q, len, zJ0_c h e4 e5⟩⟩
theorem zj_conflict {σ : Nat → zSt} (h : zJ σ) : ∃ r v t4 t5 t6 t7 t8 t9 t10 O2, fX11_conflict (σ 0) (σ 1) (σ 4) (σ 5) (σ 6) (σ 7) (σ 8) (σ 9) (σ 10) = some (r, t4, t5, t6, t7, t8, t9, t10) ∧ fX12_conflict (σ 24) = some (v, O2) ∧ zAg [("java/lang/IllegalStateException", 1)] r v (zgi O2 9) ∧ zJx (σ 13) (σ 1) (σ 2) t4 t5 t6 t7 (σ 14) (σ 16) (σ 17) (σ 18) (σ 20) (σ 21) (σ 22) (σ 23) O2 := by
  obtain ⟨n, m, q, len, h⟩ := h
  obtain ⟨r, v, t4, t5, t6, t7, t8, t9, t10, O2, e1, e2, e3, e4, e5⟩ := zcall_conflict (C := σ 0) (V := σ 8) (sV := σ 9) (dV := σ 10) h.1 h.2.1 h.2.2.2.1
  exact ⟨r, v, t4, t5, t6, t7, t8, t9, t10, O2, e1, e2, e3, ⟨n, m, q, len, zJ0_c h e4 e5⟩⟩
theorem zj_wholeAt {σ : Nat → zSt} (h : zJ σ) (x1 : Int32) : ∃ r v t16 t17 t18 O2, fX11_wholeAt (σ 0) (σ 1) (σ 16) (σ 17) (σ 18) x1 = some (r, t16, t17, t18) ∧ fX12_wholeAt (σ 24) x1 = some (v, O2) ∧ zAg [("java/lang/IndexOutOfBoundsException", 1), ("java/lang/UnsupportedOperationException", 2), ("java/util/NoSuchElementException", 3)] r v (zgi O2 9) ∧ zJx (σ 13) (σ 1) (σ 2) (σ 4) (σ 5) (σ 6) (σ 7) (σ 14) t16 t17 t18 (σ 20) (σ 21) (σ 22) (σ 23) O2 := by
  obtain ⟨n, m, q, len, h⟩ := h
  obtain ⟨r, v, t16, t17, t18, O2, e1, e2, e3, e4, e5⟩ := zcall_wholeAt (C := σ 0) h.1 h.2.1 h.2.2.2.1 x1
  exact ⟨r, v, t16, t17, t18, O2, e1, e2, e3, ⟨n, m, q, len, zJ0_c h e4 e5⟩⟩
theorem zj_wholeValue {σ : Nat → zSt} (h : zJ σ) (x1 : Int32) : ∃ r v t16 t17 t18 O2, fX11_wholeValue (σ 0) (σ 1) (σ 16) (σ 17) (σ 18) x1 = some (r, t16, t17, t18) ∧ fX12_wholeValue (σ 24) x1 = some (v, O2) ∧ zAg [("java/lang/IndexOutOfBoundsException", 1), ("java/lang/UnsupportedOperationException", 2), ("java/util/NoSuchElementException", 3)] r v (zgi O2 9) ∧ zJx (σ 13) (σ 1) (σ 2) (σ 4) (σ 5) (σ 6) (σ 7) (σ 14) t16 t17 t18 (σ 20) (σ 21) (σ 22) (σ 23) O2 := by
  obtain ⟨n, m, q, len, h⟩ := h
  obtain ⟨r, v, t16, t17, t18, O2, e1, e2, e3, e4, e5⟩ := zcall_wholeValue (C := σ 0) h.1 h.2.1 h.2.2.2.1 x1
  exact ⟨r, v, t16, t17, t18, O2, e1, e2, e3, ⟨n, m, q, len, zJ0_c h e4 e5⟩⟩
theorem zj_keep_0 {σ : Nat → zSt} (h : zJ σ) : ∃ r v t4 t5 t6 t7 t20 O2, fX11_keep_0 (σ 0) (σ 1) (σ 4) (σ 5) (σ 6) (σ 7) (σ 20) = some (r, t4, t5, t6, t7, t20) ∧ fX12_keep (σ 24) (0 : Int32) = some (v, O2) ∧ zAg [("java/lang/IllegalArgumentException", 1), ("java/util/NoSuchElementException", 2)] r v (zgi O2 9) ∧ zJx (σ 13) (σ 1) (σ 2) t4 t5 t6 t7 (σ 14) (σ 16) (σ 17) (σ 18) t20 (σ 21) (σ 22) (σ 23) O2 := by
  obtain ⟨n, m, q, len, h⟩ := h
  obtain ⟨r, v, t4, t5, t6, t7, t20, O2, e1, e2, e3, e4, e5, e6⟩ := zcall_keep (C := σ 0) (k := 0) (by omega) h.1 h.2.1 h.2.2.2.1 h.2.2.2.2.1
  obtain ⟨a, b, c, d, s0, s1, s2, s3⟩ := h
  exact ⟨r, v, t4, t5, t6, t7, t20, O2, e1, e2, e3, n, m, q, len, a, zRl_fk b e4, zTy_fk c e4, e5, e6, zSnap_fk (by omega) s1 e4, zSnap_fk (by omega) s2 e4, zSnap_fk (by omega) s3 e4⟩
theorem zj_keep_1 {σ : Nat → zSt} (h : zJ σ) : ∃ r v t4 t5 t6 t7 t21 O2, fX11_keep_1 (σ 0) (σ 1) (σ 4) (σ 5) (σ 6) (σ 7) (σ 21) = some (r, t4, t5, t6, t7, t21) ∧ fX12_keep (σ 24) (1 : Int32) = some (v, O2) ∧ zAg [("java/lang/IllegalArgumentException", 1), ("java/util/NoSuchElementException", 2)] r v (zgi O2 9) ∧ zJx (σ 13) (σ 1) (σ 2) t4 t5 t6 t7 (σ 14) (σ 16) (σ 17) (σ 18) (σ 20) t21 (σ 22) (σ 23) O2 := by
  obtain ⟨n, m, q, len, h⟩ := h
  obtain ⟨r, v, t4, t5, t6, t7, t21, O2, e1, e2, e3, e4, e5, e6⟩ := zcall_keep (C := σ 0) (k := 1) (by omega) h.1 h.2.1 h.2.2.2.1 h.2.2.2.2.2.1
  obtain ⟨a, b, c, d, s0, s1, s2, s3⟩ := h
  exact ⟨r, v, t4, t5, t6, t7, t21, O2, e1, e2, e3, n, m, q, len, a, zRl_fk b e4, zTy_fk c e4, e5, zSnap_fk (by omega) s0 e4, e6, zSnap_fk (by omega) s2 e4, zSnap_fk (by omega) s3 e4⟩
theorem zj_keep_2 {σ : Nat → zSt} (h : zJ σ) : ∃ r v t4 t5 t6 t7 t22 O2, fX11_keep_2 (σ 0) (σ 1) (σ 4) (σ 5) (σ 6) (σ 7) (σ 22) = some (r, t4, t5, t6, t7, t22) ∧ fX12_keep (σ 24) (2 : Int32) = some (v, O2) ∧ zAg [("java/lang/IllegalArgumentException", 1), ("java/util/NoSuchElementException", 2)] r v (zgi O2 9) ∧ zJx (σ 13) (σ 1) (σ 2) t4 t5 t6 t7 (σ 14) (σ 16) (σ 17) (σ 18) (σ 20) (σ 21) t22 (σ 23) O2 := by
  obtain ⟨n, m, q, len, h⟩ := h
  obtain ⟨r, v, t4, t5, t6, t7, t22, O2, e1, e2, e3, e4, e5, e6⟩ := zcall_keep (C := σ 0) (k := 2) (by omega) h.1 h.2.1 h.2.2.2.1 h.2.2.2.2.2.2.1
  obtain ⟨a, b, c, d, s0, s1, s2, s3⟩ := h
  exact ⟨r, v, t4, t5, t6, t7, t22, O2, e1, e2, e3, n, m, q, len, a, zRl_fk b e4, zTy_fk c e4, e5, zSnap_fk (by omega) s0 e4, zSnap_fk (by omega) s1 e4, e6, zSnap_fk (by omega) s3 e4⟩
theorem zj_keep_3 {σ : Nat → zSt} (h : zJ σ) : ∃ r v t4 t5 t6 t7 t23 O2, fX11_keep_3 (σ 0) (σ 1) (σ 4) (σ 5) (σ 6) (σ 7) (σ 23) = some (r, t4, t5, t6, t7, t23) ∧ fX12_keep (σ 24) (3 : Int32) = some (v, O2) ∧ zAg [("java/lang/IllegalArgumentException", 1), ("java/util/NoSuchElementException", 2)] r v (zgi O2 9) ∧ zJx (σ 13) (σ 1) (σ 2) t4 t5 t6 t7 (σ 14) (σ 16) (σ 17) (σ 18) (σ 20) (σ 21) (σ 22) t23 O2 := by
  obtain ⟨n, m, q, len, h⟩ := h
  obtain ⟨r, v, t4, t5, t6, t7, t23, O2, e1, e2, e3, e4, e5, e6⟩ := zcall_keep (C := σ 0) (k := 3) (by omega) h.1 h.2.1 h.2.2.2.1 h.2.2.2.2.2.2.2
  obtain ⟨a, b, c, d, s0, s1, s2, s3⟩ := h
  exact ⟨r, v, t4, t5, t6, t7, t23, O2, e1, e2, e3, n, m, q, len, a, zRl_fk b e4, zTy_fk c e4, e5, zSnap_fk (by omega) s0 e4, zSnap_fk (by omega) s1 e4, zSnap_fk (by omega) s2 e4, e6⟩
theorem zj_keep_no {σ : Nat → zSt} (h : zJ σ) {x : Int32} (hx : x < 0 ∨ 4 ≤ x) : ∃ v O2, fX12_keep (σ 24) x = some (v, O2) ∧ zgi O2 9 = 1 ∧ zJx (σ 13) (σ 1) (σ 2) (σ 4) (σ 5) (σ 6) (σ 7) (σ 14) (σ 16) (σ 17) (σ 18) (σ 20) (σ 21) (σ 22) (σ 23) O2 := by
  obtain ⟨n, m, q, len, h⟩ := h
  obtain ⟨O2, e1, e2, e3⟩ := zno_keep h.1 h.2.1 h.2.2.2.1 hx
  exact ⟨_, O2, e1, e2, n, m, q, len, zJ0_c h e3 h.2.2.2.1⟩
theorem zj_kept_0 {σ : Nat → zSt} (h : zJ σ) : ∃ v t4 t5 t6 t7 O2, fX11_kept_0 (σ 0) (σ 1) (σ 4) (σ 5) (σ 6) (σ 7) (σ 20) = some (v, t4, t5, t6, t7) ∧ fX12_kept (σ 24) (0 : Int32) = some (v, O2) ∧ zgi O2 9 = 0 ∧ zJx (σ 13) (σ 1) (σ 2) t4 t5 t6 t7 (σ 14) (σ 16) (σ 17) (σ 18) (σ 20) (σ 21) (σ 22) (σ 23) O2 := by
  obtain ⟨n, m, q, len, h⟩ := h
  obtain ⟨v, t4, t5, t6, t7, O2, e1, e2, e3, e4, e5⟩ := zcall_kept (C := σ 0) (k := 0) (by omega) h.1 h.2.1 h.2.2.2.1 h.2.2.2.2.1
  exact ⟨v, t4, t5, t6, t7, O2, e1, e2, e3, n, m, q, len, zJ0_c h e4 e5⟩
theorem zj_kept_1 {σ : Nat → zSt} (h : zJ σ) : ∃ v t4 t5 t6 t7 O2, fX11_kept_1 (σ 0) (σ 1) (σ 4) (σ 5) (σ 6) (σ 7) (σ 21) = some (v, t4, t5, t6, t7) ∧ fX12_kept (σ 24) (1 : Int32) = some (v, O2) ∧ zgi O2 9 = 0 ∧ zJx (σ 13) (σ 1) (σ 2) t4 t5 t6 t7 (σ 14) (σ 16) (σ 17) (σ 18) (σ 20) (σ 21) (σ 22) (σ 23) O2 := by
  obtain ⟨n, m, q, len, h⟩ := h
  obtain ⟨v, t4, t5, t6, t7, O2, e1, e2, e3, e4, e5⟩ := zcall_kept (C := σ 0) (k := 1) (by omega) h.1 h.2.1 h.2.2.2.1 h.2.2.2.2.2.1
  exact ⟨v, t4, t5, t6, t7, O2, e1, e2, e3, n, m, q, len, zJ0_c h e4 e5⟩
theorem zj_kept_2 {σ : Nat → zSt} (h : zJ σ) : ∃ v t4 t5 t6 t7 O2, fX11_kept_2 (σ 0) (σ 1) (σ 4) (σ 5) (σ 6) (σ 7) (σ 22) = some (v, t4, t5, t6, t7) ∧ fX12_kept (σ 24) (2 : Int32) = some (v, O2) ∧ zgi O2 9 = 0 ∧ zJx (σ 13) (σ 1) (σ 2) t4 t5 t6 t7 (σ 14) (σ 16) (σ 17) (σ 18) (σ 20) (σ 21) (σ 22) (σ 23) O2 := by
  obtain ⟨n, m, q, len, h⟩ := h
  obtain ⟨v, t4, t5, t6, t7, O2, e1, e2, e3, e4, e5⟩ := zcall_kept (C := σ 0) (k := 2) (by omega) h.1 h.2.1 h.2.2.2.1 h.2.2.2.2.2.2.1
  exact ⟨v, t4, t5, t6, t7, O2, e1, e2, e3, n, m, q, len, zJ0_c h e4 e5⟩
theorem zj_kept_3 {σ : Nat → zSt} (h : zJ σ) : ∃ v t4 t5 t6 t7 O2, fX11_kept_3 (σ 0) (σ 1) (σ 4) (σ 5) (σ 6) (σ 7) (σ 23) = some (v, t4, t5, t6, t7) ∧ fX12_kept (σ 24) (3 : Int32) = some (v, O2) ∧ zgi O2 9 = 0 ∧ zJx (σ 13) (σ 1) (σ 2) t4 t5 t6 t7 (σ 14) (σ 16) (σ 17) (σ 18) (σ 20) (σ 21) (σ 22) (σ 23) O2 := by
  obtain ⟨n, m, q, len, h⟩ := h
  obtain ⟨v, t4, t5, t6, t7, O2, e1, e2, e3, e4, e5⟩ := zcall_kept (C := σ 0) (k := 3) (by omega) h.1 h.2.1 h.2.2.2.1 h.2.2.2.2.2.2.2
  exact ⟨v, t4, t5, t6, t7, O2, e1, e2, e3, n, m, q, len, zJ0_c h e4 e5⟩
theorem zj_kept_no {σ : Nat → zSt} (h : zJ σ) {x : Int32} (hx : x < 0 ∨ 4 ≤ x) : ∃ v O2, fX12_kept (σ 24) x = some (v, O2) ∧ zgi O2 9 = 1 ∧ zJx (σ 13) (σ 1) (σ 2) (σ 4) (σ 5) (σ 6) (σ 7) (σ 14) (σ 16) (σ 17) (σ 18) (σ 20) (σ 21) (σ 22) (σ 23) O2 := by
  obtain ⟨n, m, q, len, h⟩ := h
  exact ⟨_, _, zno_kept hx, gi_si, n, m, q, len, zJ0_c h zFc_9 h.2.2.2.1⟩
theorem zj_brokenBy_0 {σ : Nat → zSt} (h : zJ σ) : ∃ r v t4 t5 t6 t7 O2, fX11_brokenBy_0 (σ 0) (σ 1) (σ 4) (σ 5) (σ 6) (σ 7) (σ 20) = some (r, t4, t5, t6, t7) ∧ fX12_brokenBy (σ 24) (0 : Int32) = some (v, O2) ∧ zAg [("java/lang/IllegalArgumentException", 1), ("java/util/NoSuchElementException", 2), ("java/lang/UnsupportedOperationException", 3)] r v (zgi O2 9) ∧ zJx (σ 13) (σ 1) (σ 2) t4 t5 t6 t7 (σ 14) (σ 16) (σ 17) (σ 18) (σ 20) (σ 21) (σ 22) (σ 23) O2 := by
  obtain ⟨n, m, q, len, h⟩ := h
  obtain ⟨r, v, t4, t5, t6, t7, O2, e1, e2, e3, e4, e5⟩ := zcall_brokenBy (C := σ 0) (k := 0) (by omega) h.1 h.2.1 h.2.2.2.1 h.2.2.2.2.1
  exact ⟨r, v, t4, t5, t6, t7, O2, e1, e2, e3, n, m, q, len, zJ0_c h e4 e5⟩
theorem zj_brokenBy_1 {σ : Nat → zSt} (h : zJ σ) : ∃ r v t4 t5 t6 t7 O2, fX11_brokenBy_1 (σ 0) (σ 1) (σ 4) (σ 5) (σ 6) (σ 7) (σ 21) = some (r, t4, t5, t6, t7) ∧ fX12_brokenBy (σ 24) (1 : Int32) = some (v, O2) ∧ zAg [("java/lang/IllegalArgumentException", 1), ("java/util/NoSuchElementException", 2), ("java/lang/UnsupportedOperationException", 3)] r v (zgi O2 9) ∧ zJx (σ 13) (σ 1) (σ 2) t4 t5 t6 t7 (σ 14) (σ 16) (σ 17) (σ 18) (σ 20) (σ 21) (σ 22) (σ 23) O2 := by
  obtain ⟨n, m, q, len, h⟩ := h
  obtain ⟨r, v, t4, t5, t6, t7, O2, e1, e2, e3, e4, e5⟩ := zcall_brokenBy (C := σ 0) (k := 1) (by omega) h.1 h.2.1 h.2.2.2.1 h.2.2.2.2.2.1
  exact ⟨r, v, t4, t5, t6, t7, O2, e1, e2, e3, n, m, q, len, zJ0_c h e4 e5⟩
theorem zj_brokenBy_2 {σ : Nat → zSt} (h : zJ σ) : ∃ r v t4 t5 t6 t7 O2, fX11_brokenBy_2 (σ 0) (σ 1) (σ 4) (σ 5) (σ 6) (σ 7) (σ 22) = some (r, t4, t5, t6, t7) ∧ fX12_brokenBy (σ 24) (2 : Int32) = some (v, O2) ∧ zAg [("java/lang/IllegalArgumentException", 1), ("java/util/NoSuchElementException", 2), ("java/lang/UnsupportedOperationException", 3)] r v (zgi O2 9) ∧ zJx (σ 13) (σ 1) (σ 2) t4 t5 t6 t7 (σ 14) (σ 16) (σ 17) (σ 18) (σ 20) (σ 21) (σ 22) (σ 23) O2 := by
  obtain ⟨n, m, q, len, h⟩ := h
  obtain ⟨r, v, t4, t5, t6, t7, O2, e1, e2, e3, e4, e5⟩ := zcall_brokenBy (C := σ 0) (k := 2) (by omega) h.1 h.2.1 h.2.2.2.1 h.2.2.2.2.2.2.1
  exact ⟨r, v, t4, t5, t6, t7, O2, e1, e2, e3, n, m, q, len, zJ0_c h e4 e5⟩
theorem zj_brokenBy_3 {σ : Nat → zSt} (h : zJ σ) : ∃ r v t4 t5 t6 t7 O2, fX11_brokenBy_3 (σ 0) (σ 1) (σ 4) (σ 5) (σ 6) (σ 7) (σ 23) = some (r, t4, t5, t6, t7) ∧ fX12_brokenBy (σ 24) (3 : Int32) = some (v, O2) ∧ zAg [("java/lang/IllegalArgumentException", 1), ("java/util/NoSuchElementException", 2), ("java/lang/UnsupportedOperationException", 3)] r v (zgi O2 9) ∧ zJx (σ 13) (σ 1) (σ 2) t4 t5 t6 t7 (σ 14) (σ 16) (σ 17) (σ 18) (σ 20) (σ 21) (σ 22) (σ 23) O2 := by
  obtain ⟨n, m, q, len, h⟩ := h
  obtain ⟨r, v, t4, t5, t6, t7, O2, e1, e2, e3, e4, e5⟩ := zcall_brokenBy (C := σ 0) (k := 3) (by omega) h.1 h.2.1 h.2.2.2.1 h.2.2.2.2.2.2.2
  exact ⟨r, v, t4, t5, t6, t7, O2, e1, e2, e3, n, m, q, len, zJ0_c h e4 e5⟩
theorem zj_brokenBy_no {σ : Nat → zSt} (h : zJ σ) {x : Int32} (hx : x < 0 ∨ 4 ≤ x) : ∃ v O2, fX12_brokenBy (σ 24) x = some (v, O2) ∧ zgi O2 9 = 1 ∧ zJx (σ 13) (σ 1) (σ 2) (σ 4) (σ 5) (σ 6) (σ 7) (σ 14) (σ 16) (σ 17) (σ 18) (σ 20) (σ 21) (σ 22) (σ 23) O2 := by
  obtain ⟨n, m, q, len, h⟩ := h
  exact ⟨_, _, zno_brokenBy hx, gi_si, n, m, q, len, zJ0_c h zFc_9 h.2.2.2.1⟩
theorem zj_tightShare {σ : Nat → zSt} (h : zJ σ) : ∃ r v t4 t5 t6 t7 O2, fX11_tightShare (σ 0) (σ 1) (σ 4) (σ 5) (σ 6) (σ 7) = some (r, t4, t5, t6, t7) ∧ fX12_tightShare (σ 24) = some (v, O2) ∧ zAg [("java/util/NoSuchElementException", 1)] r v (zgi O2 9) ∧ zfok v = true ∧ zJx (σ 13) (σ 1) (σ 2) t4 t5 t6 t7 (σ 14) (σ 16) (σ 17) (σ 18) (σ 20) (σ 21) (σ 22) (σ 23) O2 := by
  obtain ⟨n, m, q, len, h⟩ := h
  obtain ⟨r, v, t4, t5, t6, t7, O2, e1, e2, e3, e6, e4, e5⟩ := zcall_tightShare (C := σ 0) h.1 h.2.1 h.2.2.2.1
  exact ⟨r, v, t4, t5, t6, t7, O2, e1, e2, e3, e6, ⟨n, m, q, len, zJ0_c h e4 e5⟩⟩

/-! 9r: tell. -/
/-- the answer r of the class, the answer v and the thrown code c of the reference -/
def zAg {α : Type} (T : List (String × Int32)) (r : String ⊕ α) (v : α) (c : Int32) : Prop := (r = .inr v ∧ c = 0) ∨ ∃ E, r = .inl E ∧ (E, c) ∈ T
/-- what a call that changes the program keeps of the reference -/
def zFr (A B : zSt) : Prop := (∀ k, 18 < k → zgi B k = zgi A k) ∧ (∀ k, zgl B k = zgl A k) ∧ (∀ k, 14 < k → zga B k = zga A k) ∧ ∀ k, zgb B k = zgb A k
theorem zFr.refl (O : zSt) : zFr O O := ⟨fun _ _ => rfl, fun _ => rfl, fun _ _ => rfl, fun _ => rfl⟩
theorem zFr.trans {A B C : zSt} (h : zFr A B) (g : zFr B C) : zFr A C := ⟨fun k a => (g.1 k a).trans (h.1 k a), fun k => (g.2.1 k).trans (h.2.1 k), fun k a => (g.2.2.1 k a).trans (h.2.2.1 k a), fun k => (g.2.2.2 k).trans (h.2.2.2 k)⟩
theorem zFr_x {A B : zSt} (h : zFtx A B) : zFr A B := ⟨fun k a => h.1 k (by omega), h.2.1, fun k a => h.2.2.1 k (by omega), h.2.2.2⟩
theorem zFr_i {A : zSt} {k : Nat} {v : Int32} (h : k ≤ 18) : zFr A (zsi A k v) := ⟨fun j a => gi_sin (by omega), fun _ => rfl, fun _ _ => rfl, fun _ => rfl⟩
theorem zFr_a {A : zSt} {k : Nat} {v : Nat → Int32} (h : k ≤ 14) : zFr A (zsa A k v) := ⟨fun j a => rfl, fun _ => rfl, fun k a => ga_san (by omega), fun _ => rfl⟩
theorem zRl_i {n m q k : Nat} {P O : zSt} {v : Int32} (h : zRl n m q P O) (hk : k ≠ 10 ∧ k ≠ 11 ∧ k ≠ 12) : zRl n m q P (zsi O k v) := by
  obtain ⟨g10, g11, g12, g⟩ := h
  exact ⟨by rw [gi_sin (Ne.symm hk.1)]; exact g10, by rw [gi_sin (Ne.symm hk.2.1)]; exact g11, by rw [gi_sin (Ne.symm hk.2.2)]; exact g12, g⟩
theorem zTy_i {n len k : Nat} {X O : zSt} {v : Int32} (h : zTy n len X O) (hk : k ≠ 10 ∧ k ≠ 13) : zTy n len X (zsi O k v) := by
  obtain ⟨a, b, c, d, e, f⟩ := h
  exact ⟨a, b, c, by rw [gi_sin (Ne.symm hk.2)]; exact d, e, by rw [gi_sin (Ne.symm hk.1)]; exact f⟩
/-- nothing typed -/
theorem zTy_0 {n : Nat} {X O : zSt} (hn : n ≤ 3) (h2 : zgi X 2 = zI 0) (h13 : zgi O 13 = zI 0) (h10 : zgi O 10 = zI n) : zTy n 0 X O := ⟨hn, by omega, h2, h13, fun k hk => by omega, h10⟩
theorem ztell_no (O : zSt) {y : Int32} (hy : y = 1 ∨ y = 2) : fX12_tell_74 O y = some (0, zsi O 9 y) := by
  unfold fX12_tell_74
  rw [zlq, gi_si]
  rcases hy with rfl | rfl
  · rw [if_neg (by decide)]
  · rw [if_neg (by decide)]
/-- the reference: is there room -/
theorem zroom {n m q len : Nat} {P O O1 : zSt} {b : Int32} (hP : zPw n m q P) (hR : zRl n m q P O1) (hr : fX12_reads O = some O1) (hb : fX12_isAimText O1 = some b) : fX12_tell O = fX12_tell_50 O1 (if (b = 0 ∧ (m = 12 ∨ zlv P m = 6)) ∨ (b ≠ 0 ∧ q = 3) then 1 else 0) := by
  have hm := hP.2.1
  have hq := hP.2.2.1
  have hl := hP.2.2.2.2.2.2.1.2
  unfold fX12_tell fX12_tell_45
  rw [hr, zbq, hb, zbq]
  by_cases c : b = 0
  · rw [if_pos c, hR.2.1]
    by_cases c2 : m = 12
    · rw [if_pos (show zI m = (12 : Int32) by rw [zn12, zI_eq (by omega) (by omega)]; exact c2), if_pos (Or.inl ⟨c, Or.inl c2⟩)]
    · rw [if_neg (show ¬ zI m = (12 : Int32) by rw [zn12, zI_eq (by omega) (by omega)]; exact c2), eX12_leftRows hP hR, zbq]
      by_cases c3 : zlv P m = 6
      · rw [if_pos (show zI (zlv P m) = (6 : Int32) by rw [zn6, zI_eq (by omega) (by omega)]; exact c3), if_pos (Or.inl ⟨c, Or.inr c3⟩)]
      · rw [if_neg (show ¬ zI (zlv P m) = (6 : Int32) by rw [zn6, zI_eq (by omega) (by omega)]; exact c3), if_neg]
        rintro (⟨-, h | h⟩ | ⟨h, -⟩)
        · exact c2 h
        · exact c3 h
        · exact h c
  · rw [if_neg c, hR.2.2.1]
    by_cases c2 : q = 3
    · rw [if_pos (show zI q = (3 : Int32) by rw [zn3, zI_eq (by omega) (by omega)]; exact c2), if_pos (Or.inr ⟨c, c2⟩)]
    · rw [if_neg (show ¬ zI q = (3 : Int32) by rw [zn3, zI_eq (by omega) (by omega)]; exact c2), if_neg]
      rintro (⟨h, -⟩ | ⟨-, h⟩)
      · exact c h
      · exact c2 h
theorem ztell {n m q len : Nat} {C P X O W K Z : zSt} (hP : zPw n m q P) (hR : zRl n m q P O) (hT : zTy n len X O) : ∃ r v T2 P2 X2 O2 m2 q2 len2, fX11_tell C P X W K Z = some (r, P2, X2, T2) ∧ fX12_tell O = some (v, O2) ∧ zAg [("java/lang/UnsupportedOperationException", 1), ("java/lang/IllegalStateException", 2)] r v (zgi O2 9) ∧ zPw n m2 q2 P2 ∧ zRl n m2 q2 P2 O2 ∧ zTy n len2 X2 O2 ∧ zFr O O2 ∧ ((m2 = m ∧ q2 = q ∧ P2 = P ∧ T2 = (W, K, Z)) ∨ T2 = zFg (W, K, Z)) := by
  obtain ⟨X1, O1, r1, r2, fr, rd⟩ := zread hT
  have ty := zRead_ty rd
  have hR1 := zRl_tx hR fr
  obtain ⟨b, b1, b2, b3⟩ := zaimt ty
  have hrm := zroom (len := len) hP hR1 r2 b2
  have hf := zhasF X1
  -- a refusal
  have no : ∀ (E : String) (c : Int32), (E, c) ∈ ([("java/lang/UnsupportedOperationException", 1), ("java/lang/IllegalStateException", 2)] : List (String × Int32)) → fX11_tell C P X W K Z = some (.inl E, P, X1, W, K, Z) → fX12_tell O = some (0, zsi O1 9 c) → ∃ r v T2 P2 X2 O2 m2 q2 len2, fX11_tell C P X W K Z = some (r, P2, X2, T2) ∧ fX12_tell O = some (v, O2) ∧ zAg [("java/lang/UnsupportedOperationException", 1), ("java/lang/IllegalStateException", 2)] r v (zgi O2 9) ∧ zPw n m2 q2 P2 ∧ zRl n m2 q2 P2 O2 ∧ zTy n len2 X2 O2 ∧ zFr O O2 ∧ ((m2 = m ∧ q2 = q ∧ P2 = P ∧ T2 = (W, K, Z)) ∨ T2 = zFg (W, K, Z)) := fun E c hE e1 e2 =>
    ⟨_, _, _, _, _, _, m, q, len, e1, e2, Or.inr ⟨E, rfl, by rw [gi_si]; exact hE⟩, hP, zRl_i hR1 (by omega), zTy_i ty (by omega), (zFr_x fr).trans (zFr_i (by omega)), Or.inl ⟨rfl, rfl, rfl, rfl⟩⟩
  rcases rd with ⟨good, k⟩ | bad
  · have h5 : zgi X1 5 = 45 := good.1.2.1
    have h18 : zgi O1 18 = 45 := good.1.2.2.1
    rw [if_pos h5] at hf
    have hcl : fX11_tell C P X W K Z = ((fX8_beginsAsAim X1).bind (fun o38 =>
      (if o38 = 0 then
      ((fX5_hasRoomForRow P).bind (fun o63 =>
        (if o63 = 0 then
        (fX11_tell_69 C P X1 W K Z)
      else
        (fX11_tell_79 C P X1 W K Z o38))))
    else
      ((fX5_hasRoomForAim P).bind (fun o50 =>
        (if o50 = 0 then
        (fX11_tell_69 C P X1 W K Z)
      else
        (fX11_tell_79 C P X1 W K Z o38))))))) := by
      unfold fX11_tell
      rw [hP.2.2.2.1, r1, zbq, hf, zbq, if_pos rfl]
    rw [b1, zbq, eX5_hasRoomForRow hP, eX5_hasRoomForAim hP, zbq, zbq] at hcl
    unfold fX12_tell_50 at hrm
    rw [if_pos h18] at hrm
    by_cases room : (b = 0 ∧ (m = 12 ∨ zlv P m = 6)) ∨ (b ≠ 0 ∧ q = 3)
    · -- no room
      refine no "java/lang/IllegalStateException" 2 (by simp) ?_ ?_
      · rw [hcl]
        rcases room with ⟨e, h⟩ | ⟨e, h⟩
        · rw [if_pos e, if_pos h, if_pos rfl]; rfl
        · rw [if_neg e, if_pos h, if_pos rfl]; rfl
      · rw [hrm, if_pos room, if_neg (show ¬ (1 : Int32) = 0 by decide), ztell_no O1 (Or.inr rfl)]
    · have hm := hP.2.1
      have hq := hP.2.2.1
      have hl := hP.2.2.2.2.2.2.1.2
      rw [if_neg room, if_pos rfl] at hrm
      have c30 : zin (0 : Int32) 30 = true := by decide
      have n0 : ((0 : Int32)).toNatClampNeg = 0 := by decide
      unfold fX12_tell_74 at hrm
      rw [zlq, gi_si, if_pos (show (0 : Int32) ≤ 0 by decide), zlq, if_pos c30, n0, ga_si, ga_si] at hrm
      have hco := good.1.2.2.2.2.2.2
      have z0 : zTy n 0 (zsi X1 2 0) (zsi (zsi O1 9 0) 13 0) := zTy_0 hP.1 gi_si gi_si (by rw [gi_sin (by omega), gi_sin (by omega)]; exact hR1.1)
      rcases k with ⟨ha, hd⟩ | ⟨ha, hrel, h9, h99, hlen⟩
      · -- an aim
        have hb : b ≠ 0 := by
          rcases b3 with ⟨e, -⟩ | ⟨-, e⟩
          · rw [e]; decide
          · exact absurd ha e
        have q3 : ¬ q = 3 := fun h => room (Or.inr ⟨hb, h⟩)
        have hq3 : q < 3 := by omega
        rw [if_neg hb, if_neg q3, if_neg (show ¬ (1 : Int32) = 0 by decide)] at hcl
        unfold fX11_tell_79 fX11_tell_112 at hcl
        rw [zforget, zbq, if_neg hb, eX5_putAim hP hq3, zbq, zlq] at hcl
        rw [if_pos ha.2] at hrm
        unfold fX12_tellsAim at hrm
        rw [zn0, ztellsAim hq3 (zga O1 8 1) 3 0 6000 (zsi (zsi O1 9 (zI 0)) 13 (zI 0)) (by omega) (by omega) (by rw [gi_sin (by omega), gi_sin (by omega)]; exact hR1.2.2.1) rfl, zbq] at hrm
        refine ⟨_, _, _, _, _, _, m, q + 1, 0, hcl, hrm, Or.inl ⟨rfl, ?_⟩, ?_, ?_, ?_, ?_, Or.inr rfl⟩
        · rw [gi_sin (by omega), gi_sa, gi_sa, gi_sin (by omega), gi_si]; rfl
        · refine zPw_aim (dir := zgi X1 7) (G := zga X1 1) hP hq3 ?_ ?_ ?_ ?_ ?_ ?_ ?_ ?_ ?_ ?_ ?_ ?_ (fun i hi => ⟨good.2 i hi, (hco i hi).2⟩) (by rcases hd with ⟨e, -⟩ | ⟨e, -⟩ <;> rw [e] <;> simp)
          · rw [gi_sa, gi_sin (by omega), gi_sa]
          · rw [gi_sa, gi_sin (by omega), gi_sa]
          · rw [gi_sa, gi_sin (by omega), gi_sa]
          · rw [gi_sa, gi_si]
          · rw [ga_san (by omega), ga_si, ga_san (by omega)]
          · rw [ga_san (by omega), ga_si, ga_san (by omega)]
          · rw [ga_san (by omega), ga_si, ga_san (by omega)]
          · rw [ga_san (by omega), ga_si, ga_san (by omega)]
          · rw [ga_san (by omega), ga_si, ga_san (by omega)]
          · rw [ga_san (by omega), ga_si, ga_san (by omega)]
          · rw [ga_sa]
          · rw [ga_san (by omega), ga_si, ga_sa]
        · refine zRl_aim (dir := zgi X1 7) (dirO := if zga O1 8 1 = 97 then 1 else 0) (G := zga X1 1) (H := zga O1 14) hR1 ?_ ?_ ?_ ?_ ?_ ?_ ?_ ?_ ?_ ?_ ?_ ?_ ?_ ?_ ?_ ?_ ?_ ?_ ?_ (fun i hi => (hco i hi).1) ?_
          · rw [gi_sin (by omega), gi_sa, gi_sa, gi_sin (by omega), gi_sin (by omega)]
          · rw [gi_sin (by omega), gi_sa, gi_sa, gi_sin (by omega), gi_sin (by omega)]
          · rw [gi_si]
          · rw [ga_san (by omega), ga_si, ga_san (by omega)]
          · rw [ga_san (by omega), ga_si, ga_san (by omega)]
          · rw [ga_san (by omega), ga_si, ga_san (by omega)]
          · rw [ga_san (by omega), ga_si, ga_san (by omega)]
          · rw [ga_san (by omega), ga_si, ga_san (by omega)]
          · rw [ga_san (by omega), ga_si, ga_san (by omega)]
          · rw [ga_sa]
          · rw [ga_san (by omega), ga_si, ga_sa]
          · rw [ga_si, ga_san (by omega), ga_san (by omega), ga_si, ga_si]
          · rw [ga_si, ga_san (by omega), ga_san (by omega), ga_si, ga_si]
          · rw [ga_si, ga_san (by omega), ga_san (by omega), ga_si, ga_si]
          · rw [ga_si, ga_san (by omega), ga_san (by omega), ga_si, ga_si]
          · rw [ga_si, ga_san (by omega), ga_san (by omega), ga_si, ga_si]
          · rw [ga_si, ga_san (by omega), ga_san (by omega), ga_si, ga_si]
          · rw [ga_si, ga_san (by omega), ga_sa, ga_si, ga_si, ga_si, ga_si]
          · rw [ga_si, ga_sa, ga_si, ga_si]
          · rcases hd with ⟨e, e2⟩ | ⟨e, e2⟩
            · left; rw [e, if_pos e2]; exact ⟨rfl, by decide⟩
            · right; rw [e, e2, if_neg (by decide)]; exact ⟨rfl, rfl⟩
        · refine zTy_0 hP.1 gi_si ?_ ?_
          · rw [gi_sin (by omega), gi_sa, gi_sa, gi_si]
          · rw [gi_sin (by omega), gi_sa, gi_sa, gi_sin (by omega), gi_sin (by omega)]; exact hR1.1
        · exact (((((zFr_x fr).trans (zFr_i (by omega))).trans (zFr_i (by omega))).trans (zFr_a (by omega))).trans (zFr_a (by omega))).trans (zFr_i (by omega))
      · -- a row
        have hb : b = 0 := by
          rcases b3 with ⟨-, e⟩ | ⟨e, -⟩
          · exact absurd e ha
          · exact e
        have hm2 : m < 12 := by
          by_cases c : m = 12
          · exact absurd (Or.inl ⟨hb, Or.inl c⟩) room
          · omega
        have hl2 : zlv P m < 6 := by
          by_cases c : zlv P m = 6
          · exact absurd (Or.inl ⟨hb, Or.inr c⟩) room
          · omega
        have hrel2 : zgi X1 8 = 60 ∨ zgi X1 8 = 61 ∨ zgi X1 8 = 62 := by
          rcases hrel with ⟨e, -⟩ | ⟨e, -⟩ | ⟨e, -⟩
          · exact Or.inl e
          · exact Or.inr (Or.inr e)
          · exact Or.inr (Or.inl e)
        rw [if_pos hb, if_neg (show ¬ (m = 12 ∨ zlv P m = 6) by omega), if_neg (show ¬ (1 : Int32) = 0 by decide)] at hcl
        unfold fX11_tell_79 fX11_tell_112 at hcl
        rw [zforget, zbq, if_pos hb, eX5_putRow hP hm2 hrel2, zbq, zlq] at hcl
        rw [if_neg (show ¬ zga O1 8 0 = 109 from fun h => ha ⟨hlen, h⟩)] at hrm
        rw [zn0, ztell_109 hm2 3 0 6000 _ (by omega) (by omega) (by rw [gi_sin (by omega), gi_sin (by omega)]; exact hR1.2.1)] at hrm
        refine ⟨_, _, _, _, _, _, m + 1, q, 0, hcl, hrm, Or.inl ⟨rfl, ?_⟩, ?_, ?_, ?_, ?_, Or.inr rfl⟩
        · rw [gi_sin (by omega), gi_sa, gi_sa, gi_sa, gi_sin (by omega), gi_si]; rfl
        · refine zPw_row (rel := zgi X1 8) (num := zgi X1 9) (G := zga X1 1) hP hm2 hl2 ?_ ?_ ?_ ?_ ?_ ?_ ?_ ?_ ?_ ?_ ?_ ?_ (fun i hi => ⟨good.2 i hi, (hco i hi).2⟩) hrel2 h99
          · rw [gi_sa, gi_sa, gi_sin (by omega), gi_sin (by omega), gi_sa, gi_sa]
          · rw [gi_sa, gi_sa, gi_sin (by omega), gi_si]
          · rw [gi_sa, gi_sa, gi_si]
          · rw [gi_sa, gi_sa, gi_sin (by omega), gi_sin (by omega), gi_sa, gi_sa]
          · rw [ga_san (by omega), ga_san (by omega), ga_si, ga_si, ga_san (by omega), ga_san (by omega)]
          · rw [ga_san (by omega), ga_san (by omega), ga_si, ga_si, ga_san (by omega), ga_san (by omega)]
          · rw [ga_san (by omega), ga_san (by omega), ga_si, ga_si, ga_san (by omega), ga_san (by omega)]
          · rw [ga_san (by omega), ga_san (by omega), ga_si, ga_si, ga_san (by omega), ga_san (by omega)]
          · rw [ga_sa]
          · rw [ga_san (by omega), ga_san (by omega), ga_si, ga_si, ga_san (by omega), ga_sa]
          · rw [ga_san (by omega), ga_sa]
          · rw [ga_san (by omega), ga_san (by omega), ga_si, ga_si, ga_sa]
        · refine zRl_row (rel := zgi X1 8) (num := zgi X1 9) (relO := zgi O1 16) (G := zga X1 1) (H := zga O1 14) hR1 hm2 ?_ ?_ ?_ ?_ ?_ ?_ ?_ ?_ ?_ ?_ ?_ ?_ ?_ ?_ ?_ ?_ ?_ ?_ ?_ (fun i hi => (hco i hi).1) hrel
          · rw [gi_sin (by omega), gi_sa, gi_sa, gi_sa, gi_sin (by omega), gi_sin (by omega)]
          · rw [gi_si]
          · rw [gi_sin (by omega), gi_sa, gi_sa, gi_sa, gi_sin (by omega), gi_sin (by omega)]
          · rw [ga_san (by omega), ga_san (by omega), ga_si, ga_si, ga_san (by omega), ga_san (by omega)]
          · rw [ga_san (by omega), ga_san (by omega), ga_si, ga_si, ga_san (by omega), ga_san (by omega)]
          · rw [ga_san (by omega), ga_san (by omega), ga_si, ga_si, ga_san (by omega), ga_san (by omega)]
          · rw [ga_san (by omega), ga_san (by omega), ga_si, ga_si, ga_san (by omega), ga_san (by omega)]
          · rw [ga_sa]
          · rw [ga_san (by omega), ga_san (by omega), ga_si, ga_si, ga_san (by omega), ga_sa]
          · rw [ga_san (by omega), ga_sa]
          · rw [ga_san (by omega), ga_san (by omega), ga_si, ga_si, ga_sa]
          · rw [ga_si, ga_san (by omega), ga_san (by omega), ga_san (by omega), ga_si, ga_si]
          · rw [ga_si, ga_san (by omega), ga_san (by omega), ga_san (by omega), ga_si, ga_si]
          · rw [ga_si, ga_san (by omega), ga_san (by omega), ga_san (by omega), ga_si, ga_si]
          · rw [ga_si, ga_san (by omega), ga_san (by omega), ga_san (by omega), ga_si, ga_si]
          · rw [ga_si, ga_san (by omega), ga_san (by omega), ga_san (by omega), ga_si, ga_si]
          · rw [ga_si, ga_san (by omega), ga_san (by omega), ga_sa, ga_si, ga_si, ga_si, ga_si]
          · rw [ga_si, ga_san (by omega), ga_sa, ga_si, ga_si, gi_sin (by omega), gi_sin (by omega)]
          · rw [ga_si, ga_sa, ga_si, ga_si, gi_sin (by omega), gi_sin (by omega), h9]
        · refine zTy_0 hP.1 gi_si ?_ ?_
          · rw [gi_sin (by omega), gi_sa, gi_sa, gi_sa, gi_si]
          · rw [gi_sin (by omega), gi_sa, gi_sa, gi_sa, gi_sin (by omega), gi_sin (by omega)]; exact hR1.1
        · exact ((((((zFr_x fr).trans (zFr_i (by omega))).trans (zFr_i (by omega))).trans (zFr_a (by omega))).trans (zFr_a (by omega))).trans (zFr_a (by omega))).trans (zFr_i (by omega))
  · -- a fault
    have h5 : zgi X1 5 ≠ 45 := bad.2.1
    have h18 : zgi O1 18 ≠ 45 := by rw [← bad.2.2.1]; exact h5
    rw [if_neg h5] at hf
    refine no "java/lang/UnsupportedOperationException" 1 (by simp) ?_ ?_
    · unfold fX11_tell
      rw [hP.2.2.2.1, r1, zbq, hf, zbq, if_neg (show ¬ (1 : Int32) = 0 by decide)]
    · rw [hrm]
      unfold fX12_tell_50
      rw [if_neg h18, ztell_no O1 (Or.inl rfl)]

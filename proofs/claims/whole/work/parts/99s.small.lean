/-! 9s: indices, the calls that change bounds. -/
def zix (n : Nat) (x : Int32) : Bool := decide (0 ≤ x ∧ x < zI n)
theorem zix_iff {n : Nat} {x : Int32} : zix n x = true ↔ 0 ≤ x ∧ x < zI n := decide_eq_true_iff
theorem zix_ex {n : Nat} {x : Int32} (hn : n < 2147483648) (h : zix n x) : ∃ v, v < n ∧ x = zI v := by
  obtain ⟨h1, h2⟩ := zix_iff.mp h
  rw [z32le, show (0 : Int32).toInt = 0 by decide] at h1
  rw [z32lt, zI_toInt hn] at h2
  refine ⟨x.toInt.toNat, by omega, ?_⟩
  apply Int32.toInt_inj.mp
  rw [zI_toInt (by omega)]
  omega
theorem zix_of {n v : Nat} (hn : n < 2147483648) (h : v < n) : zix n (zI v) := by
  refine zix_iff.mpr ⟨?_, ?_⟩
  · rw [zn0, zI_le (by omega) (by omega)]; omega
  · rw [zI_lt (by omega) (by omega)]; exact h
theorem zinB (x a b : Int32) : fX12_in x a b = some (if a ≤ x ∧ x ≤ b then 1 else 0) := by
  unfold fX12_in fX12_in_14 fX12_in_15
  rw [if_pos znb0, if_pos znb1]
  simp only [z32lt, z32le]
  by_cases c : x.toInt < a.toInt
  · rw [if_pos c, if_neg (by omega)]
  · rw [if_neg c]
    by_cases c2 : b.toInt < x.toInt
    · rw [if_pos c2, if_neg (by omega)]
    · rw [if_neg c2, if_pos (by omega)]
theorem zinI {n : Nat} (hn : n ≤ 12) (x : Int32) : fX12_in x 0 (zI n - 1) = some (if zix n x then 1 else 0) := by
  rw [zinB]
  have e : (0 ≤ x ∧ x ≤ zI n - 1) ↔ zix n x = true := by
    rw [zix_iff]
    have t : (zI n - 1).toInt = (n : Int) - 1 := by
      have k := z32sub (a := zI n) (b := 1) (A := 12) (B := 1) (by rw [zI_toInt (by omega)]; exact zab_of (by omega) (by omega)) (by show zab 1 1; exact zab_of (by omega) (by omega)) (by omega)
      rw [k, zI_toInt (by omega)]
      rfl
    rw [z32le, z32le, z32lt, t, zI_toInt (by omega)]
    omega
  by_cases c : zix n x
  · rw [if_pos (e.mpr c), if_pos c]
  · rw [if_neg (fun h => c (e.mp h)), if_neg c]
theorem zbit {c : Prop} [Decidable c] : znar .boolean (if c then (1 : Int32) else 0) = true := by
  split
  · exact znb1
  · exact znb0
section ZSMALL
variable {n m q len : Nat} {P C X O W K Z : zSt}
theorem eX12_isVar (h : zgi O 10 = zI n) (hn : n ≤ 12) (x : Int32) : fX12_isVariable O x = some (if zix n x then 1 else 0) := by
  unfold fX12_isVariable
  rw [h, zinI hn, zbq, if_pos zbit]
theorem eX12_isRow (h : zgi O 11 = zI n) (hn : n ≤ 12) (x : Int32) : fX12_isRow O x = some (if zix n x then 1 else 0) := by
  unfold fX12_isRow
  rw [h, zinI hn, zbq, if_pos zbit]
theorem eX12_isAimIn (h : zgi O 12 = zI n) (hn : n ≤ 12) (x : Int32) : fX12_isAimIn O x = some (if zix n x then 1 else 0) := by
  unfold fX12_isAimIn
  rw [h, zinI hn, zbq, if_pos zbit]
theorem zdem {n : Nat} {v x : Int32} {α : Type} {a b : α} (h : v = zI n) : (if x < 0 then a else if x < v then b else a) = if zix n x then b else a := by
  subst h
  by_cases c : x < 0
  · rw [if_pos c, if_neg]
    intro hz
    obtain ⟨h1, -⟩ := zix_iff.mp hz
    rw [z32le] at h1
    rw [z32lt] at c
    omega
  · rw [if_neg c]
    have h0 : 0 ≤ x := by
      rw [z32le]
      rw [z32lt] at c
      omega
    by_cases c2 : x < zI n
    · rw [if_pos c2, if_pos (zix_iff.mpr ⟨h0, c2⟩)]
    · rw [if_neg c2, if_neg (fun h => c2 (zix_iff.mp h).2)]
theorem eX11_demandVariable (h : zgi P 8 = zI n) (x : Int32) : fX11_demandVariable C P x = some (if zix n x then .inr () else .inl "java/lang/IndexOutOfBoundsException") := by
  unfold fX11_demandVariable fX11_demandVariable_15
  rw [zdem h]
  split <;> rfl
theorem eX11_demandRow (h : zgi P 9 = zI n) (x : Int32) : fX11_demandRow C P x = some (if zix n x then .inr () else .inl "java/lang/IndexOutOfBoundsException") := by
  unfold fX11_demandRow fX11_demandRow_15
  rw [zdem h]
  split <;> rfl
theorem eX11_demandAim (h : zgi P 11 = zI n) (x : Int32) : fX11_demandAim C P x = some (if zix n x then .inr () else .inl "java/lang/IndexOutOfBoundsException") := by
  unfold fX11_demandAim fX11_demandAim_15
  rw [zdem h]
  split <;> rfl
theorem eX11_areBounds (a b : Int32) : fX11_areBounds a b = some (if -50 ≤ a.toInt ∧ a.toInt ≤ 50 ∧ a.toInt ≤ b.toInt ∧ b.toInt ≤ 100 then 1 else 0) := by
  unfold fX11_areBounds fX11_areBounds_27 fX11_areBounds_28
  rw [if_pos znb0, if_pos znb1]
  simp only [z32lt, show (-50 : Int32).toInt = -50 by decide, show (50 : Int32).toInt = 50 by decide, show (100 : Int32).toInt = 100 by decide]
  by_cases c1 : a.toInt < -50
  · rw [if_pos c1, if_neg (by omega)]
  rw [if_neg c1]
  by_cases c2 : 50 < a.toInt
  · rw [if_pos c2, if_neg (by omega)]
  rw [if_neg c2]
  by_cases c3 : b.toInt < a.toInt
  · rw [if_pos c3, if_neg (by omega)]
  rw [if_neg c3]
  by_cases c4 : 100 < b.toInt
  · rw [if_pos c4, if_neg (by omega)]
  rw [if_neg c4, if_pos (by omega)]
/-- what a call that may change the program leaves -/
def zKeep (n m q : Nat) (T : zSt × zSt × zSt) (P : zSt) (T2 : zSt × zSt × zSt) (P2 X2 O O2 : zSt) : Prop := ∃ n2 m2 q2 len2, zPw n2 m2 q2 P2 ∧ zRl n2 m2 q2 P2 O2 ∧ zTy n2 len2 X2 O2 ∧ zFr O O2 ∧ ((n2 = n ∧ m2 = m ∧ q2 = q ∧ P2 = P ∧ T2 = T) ∨ T2 = zFg T)
theorem zKeep_no {T : zSt × zSt × zSt} {c : Int32} (hP : zPw n m q P) (hR : zRl n m q P O) (hT : zTy n len X O) : zKeep n m q T P T P X O (zsi O 9 c) := ⟨n, m, q, len, hP, zRl_i hR (by omega), zTy_i hT (by omega), zFr_i (by omega), Or.inl ⟨rfl, rfl, rfl, rfl, rfl⟩⟩
theorem zKeep_fg {T : zSt × zSt × zSt} {P2 O2 : zSt} {n2 m2 q2 : Nat} (hP : zPw n2 m2 q2 P2) (hR : zRl n2 m2 q2 P2 O2) (hT : zTy n len X O) (h13 : zgi O2 13 = zgi O 13) (h8 : zga O2 8 = zga O 8) (hf : zFr O O2) : zKeep n m q T P (zFg T) P2 X O O2 := ⟨n2, m2, q2, len, hP, hR, ⟨hP.1, hT.2.1, hT.2.2.1, by rw [h13]; exact hT.2.2.2.1, fun k hk => by rw [h8]; exact hT.2.2.2.2.1 k hk, hR.1⟩, hf, Or.inr rfl⟩
/-- other bounds -/
theorem zPw_bd {n2 : Nat} {P2 : zSt} {v : Nat} {a b : Int32} (hP : zPw n m q P) (hn : n ≤ n2 ∧ n2 ≤ 3) (hv : v < n2) (hnv : n2 ≤ v + 1 ∨ n2 = n) (h8 : zgi P2 8 = zI n2) (h9 : zgi P2 9 = zgi P 9) (h10 : zgi P2 10 = zgi P 10) (h11 : zgi P2 11 = zgi P 11) (a0 : zga P2 0 = upd (zga P 0) v a) (a1 : zga P2 1 = upd (zga P 1) v b) (a2 : ∀ k, 2 ≤ k → zga P2 k = zga P k) (h : -50 ≤ a.toInt ∧ a.toInt ≤ 50 ∧ a.toInt ≤ b.toInt ∧ b.toInt ≤ 100) : zPw n2 m q P2 := by
  obtain ⟨hn1, hm2, hq, g8, g9, g11, g10, hb, hz, hr, ha, hx⟩ := hP
  have lv : zlv P2 m = zlv P m := zlv_cg m (fun r hr => by rw [a2 5 (by omega)])
  refine ⟨hn.2, hm2, hq, h8, h9.trans g9, h11.trans g11, ⟨?_, ?_⟩, ?_, ?_, ?_, ?_, ?_⟩
  · rw [lv, h10]; exact g10.1
  · rw [lv]; exact g10.2
  · intro i hi
    rw [a0, a1]
    by_cases c : i = v
    · rw [upd_s c, upd_s c]; exact h
    · rw [upd_n c, upd_n c]; exact hb i hi
  · intro i hi hni
    rw [a0, a1, upd_n (by omega), upd_n (by omega)]
    exact hz i hi (by omega)
  · intro r hr2
    rw [a2 2 (by omega), a2 3 (by omega), a2 4 (by omega)]
    obtain ⟨k1, k2⟩ := hr r hr2
    exact ⟨fun i hi => ⟨(k1 i hi).1, fun h => (k1 i hi).2 (by omega)⟩, k2⟩
  · intro r hr2
    rw [a2 6 (by omega), a2 7 (by omega)]
    obtain ⟨k1, k2⟩ := ha r hr2
    exact ⟨fun i hi => ⟨(k1 i hi).1, fun h => (k1 i hi).2 (by omega)⟩, k2⟩
  · rw [a2 5 (by omega)]; exact hx
theorem zRl_bd {n2 : Nat} {P2 O2 : zSt} {v : Nat} {a b : Int32} (hR : zRl n m q P O) (h10 : zgi O2 10 = zI n2) (h11 : zgi O2 11 = zgi O 11) (h12 : zgi O2 12 = zgi O 12) (a0 : zga P2 0 = upd (zga P 0) v a) (a1 : zga P2 1 = upd (zga P 1) v b) (a2 : ∀ k, 2 ≤ k → zga P2 k = zga P k) (b0 : zga O2 0 = upd (zga O 0) v a) (b1 : zga O2 1 = upd (zga O 1) v b) (b2 : ∀ k, 2 ≤ k → zga O2 k = zga O k) : zRl n2 m q P2 O2 := by
  obtain ⟨g10, g11, g12, g0, gr, ga, gx⟩ := hR
  refine ⟨h10, h11.trans g11, h12.trans g12, ?_, ?_, ?_, ?_⟩
  · intro i hi
    rw [a0, a1, b0, b1]
    by_cases c : i = v
    · rw [upd_s c, upd_s c, upd_s c, upd_s c]; exact ⟨rfl, rfl⟩
    · rw [upd_n c, upd_n c, upd_n c, upd_n c]; exact g0 i hi
  · rw [a2 2 (by omega), a2 3 (by omega), a2 4 (by omega), a2 5 (by omega), b2 2 (by omega), b2 3 (by omega), b2 4 (by omega), b2 6 (by omega)]; exact gr
  · rw [a2 6 (by omega), a2 7 (by omega), b2 5 (by omega), b2 7 (by omega)]; exact ga
  · rw [b2 6 (by omega)]; exact gx
theorem eX5_putBounds {Q : zSt} {v : Nat} (hv : v < 3) (a b : Int32) : fX5_putBounds Q (zI v) a b = some (zsa (zsa Q 0 (upd (zga Q 0) v a)) 1 (upd (zga Q 1) v b)) := by
  have cin : zin (zI v) 3 = true := zin_zI hv (by omega)
  have c0 : ¬ zI v < 0 := by rw [zn0, zI_lt (by omega) (by omega)]; omega
  have c3 : ¬ (3 : Int32) ≤ zI v := by rw [zn3, zI_le (by omega) (by omega)]; omega
  unfold fX5_putBounds fX5_putBounds_36
  rw [if_neg c0, if_neg c3, if_neg c3, if_pos cin, zlq, if_pos cin, zlq, zI_nat (by omega), ga_san (by omega)]
theorem zcall_addVariable (hP : zPw n m q P) (hR : zRl n m q P O) (hT : zTy n len X O) (x1 x2 : Int32) : ∃ r v T2 P2 O2, fX11_addVariable C P W K Z x1 x2 = some (r, P2, T2) ∧ fX12_addVariable O x1 x2 = some (v, O2) ∧ zAg [("java/lang/IllegalArgumentException", 1), ("java/lang/IllegalStateException", 2)] r v (zgi O2 9) ∧ zKeep n m q (W, K, Z) P T2 P2 X O O2 := by
  have hn := hP.1
  have no : ∀ (E : String) (c : Int32), (E, c) ∈ ([("java/lang/IllegalArgumentException", 1), ("java/lang/IllegalStateException", 2)] : List (String × Int32)) → ¬ c ≤ 0 → fX11_addVariable C P W K Z x1 x2 = some (.inl E, P, W, K, Z) → fX12_addVariable O x1 x2 = fX12_addVariable_39 O x1 x2 c → ∃ r v T2 P2 O2, fX11_addVariable C P W K Z x1 x2 = some (r, P2, T2) ∧ fX12_addVariable O x1 x2 = some (v, O2) ∧ zAg [("java/lang/IllegalArgumentException", 1), ("java/lang/IllegalStateException", 2)] r v (zgi O2 9) ∧ zKeep n m q (W, K, Z) P T2 P2 X O O2 := by
    intro E c hE hc e1 e2
    unfold fX12_addVariable_39 at e2
    rw [zlq, gi_si, if_neg hc] at e2
    exact ⟨_, _, _, _, _, e1, e2, Or.inr ⟨E, rfl, by rw [gi_si]; exact hE⟩, zKeep_no hP hR hT⟩
  have ha := eX11_areBounds x1 x2
  have hcl : fX11_addVariable C P W K Z x1 x2 = ((fX11_areBounds x1 x2).bind (fun o2 =>
    (if o2 = 0 then
    some (.inl "java/lang/IllegalArgumentException", P, W, K, Z)
  else
    (if (zgi P 8) < (3 : Int32) then
      ((fX11_forgetAnswers C W K Z).bind (fun o40 =>
        ((fX5_putVariable P x1 x2).bind (fun o49 =>
        some (.inr o49.1, o49.2, o40.1, o40.2.1, o40.2.2)))))
    else
      some (.inl "java/lang/IllegalStateException", P, W, K, Z))))) := rfl
  rw [ha, zbq] at hcl
  have hrf : fX12_addVariable O x1 x2 = if -50 ≤ x1.toInt ∧ x1.toInt ≤ 50 ∧ x1.toInt ≤ x2.toInt ∧ x2.toInt ≤ 100 then (if n = 3 then fX12_addVariable_39 O x1 x2 2 else fX12_addVariable_39 O x1 x2 0) else fX12_addVariable_39 O x1 x2 1 := by
    unfold fX12_addVariable fX12_addVariable_22
    rw [zinB, zbq, zinB, zbq, hR.1]
    simp only [z32le, show (-50 : Int32).toInt = -50 by decide, show (50 : Int32).toInt = 50 by decide, show (100 : Int32).toInt = 100 by decide]
    by_cases c1 : -50 ≤ x1.toInt ∧ x1.toInt ≤ 50
    · rw [if_pos c1, if_neg (show ¬ (1 : Int32) = 0 by decide)]
      by_cases c2 : x1.toInt ≤ x2.toInt ∧ x2.toInt ≤ 100
      · rw [if_pos c2, if_neg (show ¬ (1 : Int32) = 0 by decide), if_pos (show -50 ≤ x1.toInt ∧ x1.toInt ≤ 50 ∧ x1.toInt ≤ x2.toInt ∧ x2.toInt ≤ 100 from ⟨c1.1, c1.2, c2.1, c2.2⟩)]
        by_cases c3 : n = 3
        · rw [if_pos c3, if_pos (by rw [zn3, zI_eq (by omega) (by omega)]; exact c3)]
        · rw [if_neg c3, if_neg (by rw [zn3, zI_eq (by omega) (by omega)]; exact c3)]
      · rw [if_neg c2, if_pos rfl, if_neg (by omega)]
    · rw [if_neg c1, if_pos rfl, if_neg (by omega)]
  by_cases cb : -50 ≤ x1.toInt ∧ x1.toInt ≤ 50 ∧ x1.toInt ≤ x2.toInt ∧ x2.toInt ≤ 100
  · rw [if_pos cb] at hcl hrf
    rw [if_neg (show ¬ (1 : Int32) = 0 by decide), hP.2.2.2.1] at hcl
    by_cases c3 : n = 3
    · rw [if_pos c3] at hrf
      rw [if_neg (by rw [zn3, zI_lt (by omega) (by omega)]; omega)] at hcl
      exact no "java/lang/IllegalStateException" 2 (by simp) (by decide) hcl hrf
    · rw [if_neg c3] at hrf
      rw [if_pos (by rw [zn3, zI_lt (by omega) (by omega)]; omega), zforget, zbq] at hcl
      unfold fX5_putVariable at hcl
      simp only [zlq] at hcl
      rw [hP.2.2.2.1, zI_succ, eX5_putBounds (by omega), zbq, zbq] at hcl
      have cin : zin (zI n) 3 = true := zin_zI (by omega) (by omega)
      unfold fX12_addVariable_39 at hrf
      simp only [zlq] at hrf
      rw [gi_si, if_pos (show (0 : Int32) ≤ 0 by decide), gi_sin (by omega), hR.1, if_pos cin, gi_sa, gi_sin (by omega), hR.1, if_pos cin, gi_si, gi_sa, gi_sa, gi_sin (by omega), hR.1, zI_succ, zI_nat (by omega)] at hrf
      have e2 : zI (n + 1) - (1 : Int32) = zI n := by rw [zn1, zI_sub (by omega)]; congr 1
      rw [e2] at hrf
      refine ⟨_, _, _, _, _, hcl, hrf, Or.inl ⟨rfl, ?_⟩, ?_⟩
      · rw [gi_sin (by omega), gi_sa, gi_sa, gi_si]
      · refine zKeep_fg (n2 := n + 1) (m2 := m) (q2 := q) ?_ ?_ hT ?_ ?_ ?_
        · refine zPw_bd (v := n) hP (by omega) (by omega) (by omega) ?_ ?_ ?_ ?_ ?_ ?_ ?_ cb
          · rw [gi_sa, gi_sa, gi_si]
          · rw [gi_sa, gi_sa, gi_sin (by omega)]
          · rw [gi_sa, gi_sa, gi_sin (by omega)]
          · rw [gi_sa, gi_sa, gi_sin (by omega)]
          · rw [ga_san (by omega), ga_sa, ga_si]
          · rw [ga_sa, ga_si]
          · intro k hk; rw [ga_san (by omega), ga_san (by omega), ga_si]
        · refine zRl_bd (v := n) hR ?_ ?_ ?_ (a := x1) (b := x2) ?_ ?_ ?_ ?_ ?_ ?_
          · rw [gi_si]
          · rw [gi_sin (by omega), gi_sa, gi_sa, gi_sin (by omega)]
          · rw [gi_sin (by omega), gi_sa, gi_sa, gi_sin (by omega)]
          · rw [ga_san (by omega), ga_sa, ga_si]
          · rw [ga_sa, ga_si]
          · intro k hk; rw [ga_san (by omega), ga_san (by omega), ga_si]
          · rw [ga_si, ga_san (by omega), ga_sa, ga_si]
          · rw [ga_si, ga_sa, ga_san (by omega), ga_si]
          · intro k hk; rw [ga_si, ga_san (by omega), ga_san (by omega), ga_si]
        · rw [gi_sin (by omega), gi_sa, gi_sa, gi_sin (by omega)]
        · rw [ga_si, ga_san (by omega), ga_san (by omega), ga_si]
        · exact (((zFr_i (by omega)).trans (zFr_a (by omega))).trans (zFr_a (by omega))).trans (zFr_i (by omega))
  · rw [if_neg cb] at hcl hrf
    rw [if_pos rfl] at hcl
    exact no "java/lang/IllegalArgumentException" 1 (by simp) (by decide) hcl hrf
end ZSMALL

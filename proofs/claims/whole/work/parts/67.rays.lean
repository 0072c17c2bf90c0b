/-! 67: the reference's rays. -/
def zFz (A B : zSt) : Prop := (∀ k, k ≠ 33 → zgi B k = zgi A k) ∧ (∀ k, zgl B k = zgl A k) ∧ (∀ k, k ≠ 26 → zga B k = zga A k) ∧ ∀ k, k ≠ 23 → k ≠ 27 → zgb B k = zgb A k
theorem zFz.trans {A B C : zSt} (h : zFz A B) (g : zFz B C) : zFz A C := ⟨fun k hk => (g.1 k hk).trans (h.1 k hk), fun k => (g.2.1 k).trans (h.2.1 k), fun k hk => (g.2.2.1 k hk).trans (h.2.2.1 k hk), fun k h1 h2 => (g.2.2.2 k h1 h2).trans (h.2.2.2 k h1 h2)⟩
theorem zPl_fz {O O2 : zSt} {L : List (zV × Nat)} (h : zPl O L) (hf : zFz O O2) : zPl O2 L := by
  obtain ⟨f1, f2, f3, f4⟩ := hf
  refine ⟨by rw [f1 31 (by omega)]; exact h.1, fun k v hv => ?_⟩
  rw [f4 19 (by omega) (by omega), f4 20 (by omega) (by omega), f3 24 (by omega)]
  exact h.2 k v hv
def zRy (O : zSt) (p : Nat) (X : zV) : Prop := (∀ n, n < 3 → (zgb O 23 (3 * p + n)).toInt = zco X n) ∧ zga O 26 p = 1
def zKr (nr : Nat) (A B : zSt) : Prop := (∀ k, k < 3 * nr → zgb B 23 k = zgb A 23 k) ∧ ∀ p, p < nr → zga B 26 p = zga A 26 p
theorem zRy_kr {nr p : Nat} {A B : zSt} {X : zV} (h : zRy A p X) (hp : p < nr) (hk : zKr nr A B) : zRy B p X := by
  refine ⟨fun n hn => ?_, ?_⟩
  · rw [hk.1 _ (by omega)]; exact h.1 n hn
  · rw [hk.2 p hp]; exact h.2
theorem zsto_69 (k28 : zSt → Int32 → Int32 → Option zSt) (k38 : zSt → Int32 → Int32 → Int32 → Option zSt) {O : zSt} {X : zV} {nr : Nat} (x2 x3 x4 : Int32) (hS : zSol O X) (hnr : nr < 130) : ∀ (d n f : Nat) (O2 : zSt), n + d = 3 → d < f → zFz O O2 → zgi O2 33 = zI nr → zgb O2 27 = zgb O 27 → zKr nr O O2 → (∀ k, k < n → (zgb O2 23 (3 * nr + k)).toInt = zco X k) → ∃ O3, zFz O O3 ∧ zgi O3 33 = zI (nr + 1) ∧ zKr nr O O3 ∧ zRy O3 nr X ∧ fX12_findsRays_69 k28 k38 f O2 x2 x3 x4 (zI n) = fX12_findsRays_122 k28 k38 O3 x2 x3 x4
  | 0, n, f + 1, O2, hn, hf, hF, h2, h27, hK, hs => by
    refine ⟨zsi (zsa O2 26 (upd (zga O2 26) nr 1)) 33 (zI (nr + 1)), ⟨fun k hk => ?_, fun k => ?_, fun k hk => ?_, fun k a b => ?_⟩, gi_si, ⟨fun k hk => ?_, fun p hp => ?_⟩, ⟨fun k hk => ?_, ?_⟩, ?_⟩
    · rw [gi_sin hk]; exact hF.1 k hk
    · exact hF.2.1 k
    · rw [ga_si, ga_san hk]; exact hF.2.2.1 k hk
    · rw [gb_si, gb_sa]; exact hF.2.2.2 k a b
    · rw [gb_si, gb_sa]; exact hK.1 k hk
    · rw [ga_si, ga_sa, upd_n (by omega)]; exact hK.2 p hp
    · rw [gb_si, gb_sa]; exact hs k (by omega)
    · rw [ga_si, ga_sa, upd_s rfl]
    · rw [fX12_findsRays_69, if_pos (by rw [zn3, zI_le (by omega) (by omega)]; omega), h2, if_pos (zin_zI hnr (by omega)), zI_nat (by omega), zlq, zlq, qgi_sa, h2, zb1, zn1, zI_add]
  | d + 1, n, f + 1, O2, hn, hf, hF, h2, h27, hK, hs => by
    rw [fX12_findsRays_69, if_neg (by rw [zn3, zI_le (by omega) (by omega)]; omega), if_pos (zin_zI (by omega) (by omega)), h2, zn3, zI_mul, zI_add, if_pos (zin_zI (by omega) (by omega)), zlq, zlq, zn1, zI_add, zI_nat (by omega), zI_nat (by omega)]
    refine zsto_69 k28 k38 x2 x3 x4 hS hnr d (n + 1) f _ (by omega) (by omega) ⟨fun k hk => hF.1 k hk, hF.2.1, hF.2.2.1, fun k a b => ?_⟩ h2 ?_ ⟨fun k hk => ?_, fun p hp => ?_⟩ (fun k hk => ?_)
    · rw [gb_sbn a]; exact hF.2.2.2 k a b
    · rw [gb_sbn (by omega)]; exact h27
    · rw [gb_sb, updL_n (by omega)]; exact hK.1 k hk
    · exact hK.2 p hp
    · rw [gb_sb]
      by_cases c : k = n
      · rw [updL_s (by omega), h27, c]
        exact hS.1 n (by omega)
      · rw [updL_n (by omega)]; exact hs k (by omega)
def zOne : zV := (1, 1, 1, -1)
theorem zOne_b : zvb zOne := ⟨zab19, zab19, zab19, by show zab (-1) 1350; unfold zab; omega⟩
/-- how many rays there can be before the pairs that begin with i -/
def zh : Nat → Nat
  | 0 => 0
  | i + 1 => zh i + (11 - i)
theorem zh_mono {a b : Nat} (h : a ≤ b) : zh a ≤ zh b := by
  induction b with
  | zero => rw [show a = 0 by omega]; exact Nat.le_refl _
  | succ b ih =>
    by_cases c : a = b + 1
    · rw [c]; exact Nat.le_refl _
    · have h1 := ih (by omega)
      have e : zh (b + 1) = zh b + (11 - b) := rfl
      omega
theorem zh_le {i : Nat} (h : i ≤ 12) : zh i ≤ 66 := zh_mono h
def zIr (L : List (zV × Nat)) (T : Nat → Nat → Prop) (B : Nat) (O0 O : zSt) (nr : Nat) : Prop :=
  zFz O0 O ∧ zgi O 33 = zI nr ∧ nr ≤ B ∧
  (∀ p, p < nr → ∃ (i j : Nat) (u v : zV × Nat), i < j ∧ L[i]? = some u ∧ L[j]? = some v ∧ zd3 u.1 v.1 zOne ≠ 0 ∧ zfit L L.length (zXb (ztr u.1 v.1 zOne)) ∧ zRy O p (zXb (ztr u.1 v.1 zOne))) ∧
  ∀ (i j : Nat) (u v : zV × Nat), i < j → T i j → L[i]? = some u → L[j]? = some v → zd3 u.1 v.1 zOne ≠ 0 → zfit L L.length (zXb (ztr u.1 v.1 zOne)) → ∃ p, p < nr ∧ zRy O p (zXb (ztr u.1 v.1 zOne))
theorem zIr_T {L : List (zV × Nat)} {T T2 : Nat → Nat → Prop} {B B2 : Nat} {O0 O : zSt} {nr : Nat} (h : zIr L T B O0 O nr) (hT : ∀ i j, i < j → j < L.length → T2 i j → T i j) (hB : nr ≤ B → nr ≤ B2) : zIr L T2 B2 O0 O nr :=
  ⟨h.1, h.2.1, hB h.2.2.1, h.2.2.2.1, fun i j u v h1 ht hu hv => h.2.2.2.2 i j u v h1 (hT i j h1 (List.getElem?_eq_some_iff.mp hv).1 ht) hu hv⟩
theorem zfit_app {L M : List (zV × Nat)} {X : zV} : zfit (L ++ M) L.length X ↔ zfit L L.length X := by
  constructor
  · intro h k hk v hv
    exact h k hk v (by rw [List.getElem?_append_left hk]; exact hv)
  · intro h k hk v hv
    rw [List.getElem?_append_left hk] at hv
    exact h k hk v hv
theorem zfr_38 {L : List (zV × Nat)} {O0 : zSt} (hlen : L.length ≤ 12) (hb : ∀ (k : Nat) (v : zV × Nat), L[k]? = some v → zvb v.1 ∧ v.2 < 3) (hL : zPl O0 (L ++ [(zOne, 2)])) (k28 : zSt → Int32 → Int32 → Option zSt) {i : Nat} (hi : i < L.length) : ∀ (d j f nr : Nat) (O : zSt), j + d = L.length → d < f → i < j → zIr L (fun a b => a < i ∨ (a = i ∧ b < j)) (zh i + (j - (i + 1))) O0 O nr → ∃ O2 nr2, zIr L (fun a b => a < i + 1) (zh (i + 1)) O0 O2 nr2 ∧ fX12_findsRays_38 k28 f O (zI L.length) (zI i) (zI j) = k28 O2 (zI L.length) (zI (i + 1))
  | 0, j, f + 1, nr, O, hj, hf, hij, hI => by
    refine ⟨O, nr, zIr_T hI (fun a b h1 h2 h3 => by omega) (fun h => by have e : zh (i + 1) = zh i + (11 - i) := rfl; omega), ?_⟩
    rw [fX12_findsRays_38, if_pos (by rw [zI_le (by omega) (by omega)]; omega), zlq, zn1, zI_add]
  | d + 1, j, f + 1, nr, O, hj, hf, hij, hI => by
    have hP := zPl_fz hL hI.1
    have hb2 : ∀ (k : Nat) (v : zV × Nat), (L ++ [(zOne, 2)])[k]? = some v → zvb v.1 ∧ v.2 < 3 := by
      intro k v hv
      by_cases c : k < L.length
      · rw [List.getElem?_append_left c] at hv
        exact hb k v hv
      · rw [List.getElem?_append_right (by omega)] at hv
        have h := List.mem_of_getElem? hv
        rw [List.mem_singleton] at h
        rw [h]
        exact ⟨zOne_b, by omega⟩
    obtain ⟨u, hu⟩ : ∃ u, L[i]? = some u := ⟨L[i]'(by omega), List.getElem?_eq_getElem (by omega)⟩
    obtain ⟨v, hv⟩ : ∃ v, L[j]? = some v := ⟨L[j]'(by omega), List.getElem?_eq_getElem (by omega)⟩
    have hu1 : (L ++ [(zOne, 2)])[i]? = some u := by rw [List.getElem?_append_left (by omega)]; exact hu
    have hv1 : (L ++ [(zOne, 2)])[j]? = some v := by rw [List.getElem?_append_left (by omega)]; exact hv
    have hw1 : (L ++ [(zOne, 2)])[L.length]? = some (zOne, 2) := by rw [List.getElem?_append_right (Nat.le_refl _), Nat.sub_self]; rfl
    have hlen1 : (L ++ [(zOne, 2)]).length ≤ 16 := by rw [List.length_append]; show L.length + 1 ≤ 16; omega
    obtain ⟨y, O1, g1, g2⟩ := eX12_solves hP hlen1 (fun k v h => (hb2 k v h).1) hu1 hv1 hw1
    rw [fX12_findsRays_38, if_neg (by rw [zI_le (by omega) (by omega)]; omega), g1, zbq]
    have next : ∀ O3 nr3, zIr L (fun a b => a < i ∨ (a = i ∧ b < j + 1)) (zh i + (j + 1 - (i + 1))) O0 O3 nr3 → ∃ O2 nr2, zIr L (fun a b => a < i + 1) (zh (i + 1)) O0 O2 nr2 ∧ fX12_findsRays_122 k28 (fX12_findsRays_38 k28 f) O3 (zI L.length) (zI i) (zI j) = k28 O2 (zI L.length) (zI (i + 1)) := by
      intro O3 nr3 h3
      obtain ⟨O2, nr2, q1, q2⟩ := zfr_38 hlen hb hL k28 hi d (j + 1) f nr3 O3 (by omega) (by omega) (by omega) h3
      refine ⟨O2, nr2, q1, ?_⟩
      unfold fX12_findsRays_122
      rw [zlq, zn1, zI_add]
      exact q2
    have skip : ∀ O3, zFz O O3 → zKr nr O O3 → zgi O3 33 = zgi O 33 → (zd3 u.1 v.1 zOne = 0 ∨ ¬ zfit L L.length (zXb (ztr u.1 v.1 zOne))) → zIr L (fun a b => a < i ∨ (a = i ∧ b < j + 1)) (zh i + (j + 1 - (i + 1))) O0 O3 nr := by
      intro O3 hF hK h33 hno
      refine ⟨hI.1.trans hF, by rw [h33]; exact hI.2.1, by have := hI.2.2.1; omega, fun p hp => ?_, fun a b u2 v2 h1 ht hu2 hv2 hd hfit => ?_⟩
      · obtain ⟨a, b, u2, v2, q1, q3, q4, q6, q7, q8⟩ := hI.2.2.2.1 p hp
        exact ⟨a, b, u2, v2, q1, q3, q4, q6, q7, zRy_kr q8 hp hK⟩
      · by_cases cc : a = i ∧ b = j
        · obtain ⟨rfl, rfl⟩ := cc
          rw [hu] at hu2; rw [hv] at hv2
          cases hu2; cases hv2
          rcases hno with h | h
          · exact absurd h hd
          · exact absurd hfit h
        · obtain ⟨p, hp, hpo⟩ := hI.2.2.2.2 a b u2 v2 h1 (by omega) hu2 hv2 hd hfit
          exact ⟨p, hp, zRy_kr hpo hp hK⟩
    rcases g2 with ⟨y0, hd0, hO⟩ | ⟨y1, hd, hF, hS⟩
    · subst hO
      rw [if_pos y0]
      exact next O1 nr (skip O1 ⟨fun _ _ => rfl, fun _ => rfl, fun _ _ => rfl, fun _ _ _ => rfl⟩ ⟨fun _ _ => rfl, fun _ _ => rfl⟩ rfl (Or.inl hd0))
    · have hne : ¬ y = 0 := by rw [y1]; decide
      have hFz : zFz O O1 := ⟨fun k _ => hF.1 k, hF.2.1, fun k _ => hF.2.2.1 k, fun k _ h => hF.2.2.2 k h⟩
      have hKr : zKr nr O O1 := ⟨fun k _ => by rw [hF.2.2.2 23 (by omega)], fun p _ => by rw [hF.2.2.1 26]⟩
      have hP1 := zPl_fb hP hF
      have hone : zvb zOne := (hb2 L.length (zOne, 2) hw1).1
      obtain ⟨z, m1, m2⟩ := eX12_fits hP1 hlen1 (fun k v h => (hb2 k v h).1) (fun k v h => (hb2 k v h).2) hS (zXb_b4 (t := ztr u.1 v.1 zOne) (hb i u hu).1 (hb j v hv).1 hone) (many := L.length) (by rw [List.length_append]; omega)
      rw [zfit_app] at m2
      rw [if_neg hne, m1, zbq]
      rcases m2 with ⟨z1, hfit⟩ | ⟨z0, hnf⟩
      · have hzne : ¬ z = 0 := by rw [z1]; decide
        rw [if_neg hzne]
        have hnr : nr < 130 := by
          have h1 := hI.2.2.1
          have h2 := zh_le (show i ≤ 12 by omega)
          omega
        obtain ⟨O3, s1, s2, s3, s4, s5⟩ := zsto_69 k28 (fX12_findsRays_38 k28 f) (zI L.length) (zI i) (zI j) hS hnr 3 0 6000 O1 (by omega) (by omega) ⟨fun _ _ => rfl, fun _ => rfl, fun _ _ => rfl, fun _ _ _ => rfl⟩ (by rw [hF.1]; exact hI.2.1) rfl ⟨fun _ _ => rfl, fun _ _ => rfl⟩ (fun k hk => by omega)
        rw [zn0, s5]
        refine next O3 (nr + 1) ⟨(hI.1.trans hFz).trans s1, s2, by have := hI.2.2.1; omega, fun p hp => ?_, fun a b u2 v2 h1 ht hu2 hv2 hd2 hfit2 => ?_⟩
        · by_cases cp : p < nr
          · obtain ⟨a, b, u2, v2, q1, q3, q4, q6, q7, q8⟩ := hI.2.2.2.1 p cp
            exact ⟨a, b, u2, v2, q1, q3, q4, q6, q7, zRy_kr (zRy_kr q8 cp hKr) cp s3⟩
          · have : p = nr := by omega
            subst this
            exact ⟨i, j, u, v, hij, hu, hv, hd, hfit, s4⟩
        · by_cases cc : a = i ∧ b = j
          · obtain ⟨rfl, rfl⟩ := cc
            rw [hu] at hu2; rw [hv] at hv2
            cases hu2; cases hv2
            exact ⟨nr, by omega, s4⟩
          · obtain ⟨p, hp, hpo⟩ := hI.2.2.2.2 a b u2 v2 h1 (by omega) hu2 hv2 hd2 hfit2
            exact ⟨p, by omega, zRy_kr (zRy_kr hpo hp hKr) hp s3⟩
      · rw [if_pos z0]
        exact next O1 nr (skip O1 hFz hKr (hF.1 33) (Or.inr hnf))
theorem zfr_28 {L : List (zV × Nat)} {O0 : zSt} (hlen : L.length ≤ 12) (hb : ∀ (k : Nat) (v : zV × Nat), L[k]? = some v → zvb v.1 ∧ v.2 < 3) (hL : zPl O0 (L ++ [(zOne, 2)])) : ∀ (d i f nr : Nat) (O : zSt), i + d = L.length → d < f → zIr L (fun a b => a < i) (zh i) O0 O nr → ∃ O2 nr2, zIr L (fun _ _ => True) 66 O0 O2 nr2 ∧ fX12_findsRays_28 f O (zI L.length) (zI i) = some O2
  | 0, i, f + 1, nr, O, hi, hf, hI => by
    refine ⟨O, nr, zIr_T hI (fun a b h1 h2 h3 => by omega) (fun h => Nat.le_trans h (zh_le (by omega))), ?_⟩
    rw [fX12_findsRays_28, if_pos (by rw [zI_le (by omega) (by omega)]; omega)]
  | d + 1, i, f + 1, nr, O, hi, hf, hI => by
    rw [fX12_findsRays_28, if_neg (by rw [zI_le (by omega) (by omega)]; omega), zlq, zn1, zI_add]
    obtain ⟨O1, nr1, q1, q2⟩ := zfr_38 hlen hb hL (fX12_findsRays_28 f) (show i < L.length by omega) (L.length - (i + 1)) (i + 1) 6000 nr O (by omega) (by omega) (by omega) (zIr_T hI (fun a b h1 h2 h3 => by omega) (fun h => by omega))
    obtain ⟨O2, nr2, r1, r2⟩ := zfr_28 hlen hb hL d (i + 1) f nr1 O1 (by omega) (by omega) q1
    exact ⟨O2, nr2, r1, by rw [q2, r2]⟩
/-- the rays of the planes L -/
def zRays (L : List (zV × Nat)) (O : zSt) (nr : Nat) : Prop :=
  zgi O 33 = zI nr ∧ nr ≤ 66 ∧
  (∀ p, p < nr → ∃ (i j : Nat) (u v : zV × Nat), i < j ∧ L[i]? = some u ∧ L[j]? = some v ∧ zd3 u.1 v.1 zOne ≠ 0 ∧ zfit L L.length (zXb (ztr u.1 v.1 zOne)) ∧ zRy O p (zXb (ztr u.1 v.1 zOne))) ∧
  ∀ (i j : Nat) (u v : zV × Nat), i < j → L[i]? = some u → L[j]? = some v → zd3 u.1 v.1 zOne ≠ 0 → zfit L L.length (zXb (ztr u.1 v.1 zOne)) → ∃ p, p < nr ∧ zRy O p (zXb (ztr u.1 v.1 zOne))
/-- what findsRays changes -/
def zFR (A B : zSt) : Prop := (∀ k, k ≠ 31 → k ≠ 33 → zgi B k = zgi A k) ∧ (∀ k, zgl B k = zgl A k) ∧ (∀ k, k ≠ 24 → k ≠ 26 → zga B k = zga A k) ∧ ∀ k, k ≠ 19 → k ≠ 20 → k ≠ 23 → k ≠ 27 → zgb B k = zgb A k
theorem eX12_findsRays {n m : Nat} {O : zSt} (x1 : Int32) (hm6 : znb x1 m ≤ 6) (hO : zOw2 n m O) : ∃ O2 nr, fX12_findsRays O x1 = some O2 ∧ zFR O O2 ∧ zRays (zPLs O n m x1 (-1) true) O2 nr := by
  obtain ⟨O1, f1, f2, f3⟩ := eX12_lays (n := n) (m := m) (O := O) x1 (-1) 1 true (by decide) hm6 hO
  have hlen := zPLs_len (n := n) (O := O) x1 (-1) true hm6
  have hb := zPLs_b x1 (-1) true hO
  have hPl : zPl (zsi O1 33 (zI 0)) (zPLs O n m x1 (-1) true) := ⟨by rw [gi_sin (by omega)]; exact f3.1, f3.2⟩
  obtain ⟨O3, g1, g2, g3⟩ := eX12_addPlane hPl (by omega) 1 1 1 1 2 (-1) (by decide)
  have e1 : (1 : Int64).toInt = 1 := by decide
  rw [e1] at g2
  have h31 : zgi (zsi O1 33 (zI 0)) 31 = zI (zPLs O n m x1 (-1) true).length := hPl.1
  unfold fX12_findsRays
  rw [f1, zbq, zlq, zn0, zlq, h31, zn2, g1, zbq]
  obtain ⟨O2, nr, r1, r2⟩ := zfr_28 hlen hb g2 (zPLs O n m x1 (-1) true).length 0 6000 0 O3 (by omega) (by omega) ⟨⟨fun _ _ => rfl, fun _ => rfl, fun _ _ => rfl, fun _ _ _ => rfl⟩, by rw [g3.1 33 (by omega), gi_si], Nat.le_refl 0, fun p hp => by omega, fun i j u v _ ht => by omega⟩
  obtain ⟨r3, r4, r5, r6, r7⟩ := r1
  refine ⟨O2, nr, r2, ⟨fun k h1 h2 => ?_, fun k => ?_, fun k h1 h2 => ?_, fun k a b c d => ?_⟩, r4, r5, r6, fun i j u v h1 => r7 i j u v h1 trivial⟩
  · rw [r3.1 k h2, g3.1 k h1, gi_sin h2, f2.1 k h1]
  · rw [r3.2.1 k, g3.2.1 k]; exact f2.2.1 k
  · rw [r3.2.2.1 k h2, g3.2.2.1 k h1, ga_si, f2.2.2.1 k h1]
  · rw [r3.2.2.2 k c d, g3.2.2.2 k a b, gb_si, f2.2.2.2 k a b]

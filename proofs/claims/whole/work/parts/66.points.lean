/-! 66: the reference's points: all on three planes that fit. -/
def zFq (A B : zSt) : Prop := (∀ k, k ≠ 32 → zgi B k = zgi A k) ∧ (∀ k, zgl B k = zgl A k) ∧ (∀ k, k ≠ 25 → zga B k = zga A k) ∧ ∀ k, k ≠ 21 → k ≠ 22 → k ≠ 27 → zgb B k = zgb A k
theorem zFq.trans {A B C : zSt} (h : zFq A B) (g : zFq B C) : zFq A C := ⟨fun k hk => (g.1 k hk).trans (h.1 k hk), fun k => (g.2.1 k).trans (h.2.1 k), fun k hk => (g.2.2.1 k hk).trans (h.2.2.1 k hk), fun k h1 h2 h3 => (g.2.2.2 k h1 h2 h3).trans (h.2.2.2 k h1 h2 h3)⟩
theorem zPl_fq {O O2 : zSt} {L : List (zV × Nat)} (h : zPl O L) (hf : zFq O O2) : zPl O2 L := by
  obtain ⟨f1, f2, f3, f4⟩ := hf
  refine ⟨by rw [f1 31 (by omega)]; exact h.1, fun k v hv => ?_⟩
  rw [f4 19 (by omega) (by omega) (by omega), f4 20 (by omega) (by omega) (by omega), f3 24 (by omega)]
  exact h.2 k v hv
/-- a point is kept at p -/
def zPo (O : zSt) (p : Nat) (X : zV) : Prop := (∀ n, n < 3 → (zgb O 21 (3 * p + n)).toInt = zco X n) ∧ (zgb O 22 p).toInt = X.2.2.2 ∧ zga O 25 p = 1
/-- the points before np are as they were -/
def zKp (np : Nat) (A B : zSt) : Prop := (∀ k, k < 3 * np → zgb B 21 k = zgb A 21 k) ∧ ∀ p, p < np → zgb B 22 p = zgb A 22 p ∧ zga B 25 p = zga A 25 p
theorem zPo_kp {np p : Nat} {A B : zSt} {X : zV} (h : zPo A p X) (hp : p < np) (hk : zKp np A B) : zPo B p X := by
  refine ⟨fun n hn => ?_, ?_, ?_⟩
  · rw [hk.1 _ (by omega)]; exact h.1 n hn
  · rw [(hk.2 p hp).1]; exact h.2.1
  · rw [(hk.2 p hp).2]; exact h.2.2
theorem zsto_80 (k14 : zSt → Int32 → Option zSt) (k27 : zSt → Int32 → Int32 → Option zSt) (k42 : zSt → Int32 → Int32 → Int32 → Option zSt) {O : zSt} {X : zV} {np : Nat} (x3 x4 x5 : Int32) (hS : zSol O X) (h32 : zgi O 32 = zI np) (hnp : np < 600) : ∀ (d n f : Nat) (O2 : zSt), n + d = 3 → d < f → zFq O O2 → zgi O2 32 = zI np → zgb O2 27 = zgb O 27 → zKp np O O2 → (∀ k, k < n → (zgb O2 21 (3 * np + k)).toInt = zco X k) → ∃ O3, zFq O O3 ∧ zgi O3 32 = zI (np + 1) ∧ zKp np O O3 ∧ zPo O3 np X ∧ fX12_findsPoints_80 k14 k27 k42 f O2 x3 x4 x5 (zI n) = fX12_findsPoints_148 k14 k27 k42 O3 x3 x4 x5
  | 0, n, f + 1, O2, hn, hf, hF, h2, h27, hK, hs => by
    refine ⟨zsi (zsa (zsb O2 22 (vp_updL (zgb O2 22) np (zgb O2 27 3))) 25 (upd (zga (zsb O2 22 (vp_updL (zgb O2 22) np (zgb O2 27 3))) 25) np 1)) 32 (zI (np + 1)), ⟨fun k hk => ?_, fun k => ?_, fun k hk => ?_, fun k a b c => ?_⟩, gi_si, ⟨fun k hk => ?_, fun p hp => ?_⟩, ⟨fun k hk => ?_, ?_, ?_⟩, ?_⟩
    · rw [gi_sin hk]; exact hF.1 k hk
    · exact hF.2.1 k
    · rw [ga_si, ga_san hk]; exact hF.2.2.1 k hk
    · rw [gb_si, gb_sa, gb_sbn b]; exact hF.2.2.2 k a b c
    · rw [gb_si, gb_sa, gb_sbn (by omega)]; exact hK.1 k hk
    · refine ⟨?_, ?_⟩
      · rw [gb_si, gb_sa, gb_sb, updL_n (by omega)]; exact (hK.2 p hp).1
      · rw [ga_si, ga_sa, upd_n (by omega)]; exact (hK.2 p hp).2
    · rw [gb_si, gb_sa, gb_sbn (by omega)]; exact hs k (by omega)
    · rw [gb_si, gb_sa, gb_sb, updL_s rfl, h27]; exact hS.2
    · rw [ga_si, ga_sa, upd_s rfl]
    · rw [fX12_findsPoints_80, if_pos (by rw [zn3, zI_le (by omega) (by omega)]; omega), if_pos (by decide), h2, if_pos (zin_zI hnp (by omega)), zI_nat (by omega), zlq, qgi_sb, h2, if_pos (zin_zI hnp (by omega)), zI_nat (by omega), zlq, zlq, qgi_sa, qgi_sb, h2, zb1, zn1, zI_add]
      rfl
  | d + 1, n, f + 1, O2, hn, hf, hF, h2, h27, hK, hs => by
    rw [fX12_findsPoints_80, if_neg (by rw [zn3, zI_le (by omega) (by omega)]; omega), if_pos (zin_zI (by omega) (by omega)), h2, zn3, zI_mul, zI_add, if_pos (zin_zI (by omega) (by omega)), zlq, zlq, zn1, zI_add, zI_nat (by omega), zI_nat (by omega)]
    refine zsto_80 k14 k27 k42 x3 x4 x5 hS h32 hnp d (n + 1) f _ (by omega) (by omega) ⟨fun k hk => hF.1 k hk, hF.2.1, hF.2.2.1, fun k a b c => ?_⟩ h2 ?_ ⟨fun k hk => ?_, fun p hp => ?_⟩ (fun k hk => ?_)
    · rw [gb_sbn a]; exact hF.2.2.2 k a b c
    · rw [gb_sbn (by omega)]; exact h27
    · rw [gb_sb, updL_n (by omega)]; exact hK.1 k hk
    · rw [gb_sbn (by omega)]; exact hK.2 p hp
    · rw [gb_sb]
      by_cases c : k = n
      · rw [updL_s (by omega), h27, c]
        exact hS.1 n (by omega)
      · rw [updL_n (by omega)]; exact hs k (by omega)
/-- how many points there can be before the pairs that begin with (.., j) -/
def zg : Nat → Nat
  | 0 => 0
  | j + 1 => zg j + if j = 0 then 0 else 11 - j
theorem zg_le : ∀ {j : Nat}, j ≤ 12 → zg j ≤ 55 := by
  intro j hj
  have m : ∀ d j, j + d = 12 → zg j ≤ zg 12 := by
    intro d
    induction d with
    | zero => intro j h; rw [show j = 12 by omega]; exact Nat.le_refl _
    | succ d ih =>
      intro j h
      have h1 := ih (j + 1) (by omega)
      have e : zg (j + 1) = zg j + if j = 0 then 0 else 11 - j := rfl
      omega
  have h12 : zg 12 = 55 := rfl
  have := m (12 - j) j (by omega)
  omega
theorem zg_mono {a b : Nat} (h : a ≤ b) : zg a ≤ zg b := by
  induction b with
  | zero => rw [show a = 0 by omega]; exact Nat.le_refl _
  | succ b ih =>
    by_cases c : a = b + 1
    · rw [c]; exact Nat.le_refl _
    · have h1 := ih (by omega)
      have e : zg (b + 1) = zg b + if b = 0 then 0 else 11 - b := rfl
      omega
/-- how many points there can be before the triples that begin with i -/
def zw : Nat → Nat
  | 0 => 0
  | i + 1 => zw i + (55 - zg (i + 1))
theorem zw_mono {a b : Nat} (h : a ≤ b) : zw a ≤ zw b := by
  induction b with
  | zero => rw [show a = 0 by omega]; exact Nat.le_refl _
  | succ b ih =>
    by_cases c : a = b + 1
    · rw [c]; exact Nat.le_refl _
    · have h1 := ih (by omega)
      have e : zw (b + 1) = zw b + (55 - zg (b + 1)) := rfl
      omega
theorem zw_le {i : Nat} (h : i ≤ 12) : zw i ≤ 220 := zw_mono h
/-- the walk through the triples: T are those that were seen -/
def zIv (L : List (zV × Nat)) (T : Nat → Nat → Nat → Prop) (B : Nat) (O0 O : zSt) (np : Nat) : Prop :=
  zFq O0 O ∧ zgi O 32 = zI np ∧ np ≤ B ∧
  (∀ p, p < np → ∃ (i j k : Nat) (u v w : zV × Nat), i < j ∧ j < k ∧ L[i]? = some u ∧ L[j]? = some v ∧ L[k]? = some w ∧ zd3 u.1 v.1 w.1 ≠ 0 ∧ zfit L L.length (zXb (ztr u.1 v.1 w.1)) ∧ zPo O p (zXb (ztr u.1 v.1 w.1))) ∧
  ∀ (i j k : Nat) (u v w : zV × Nat), i < j → j < k → T i j k → L[i]? = some u → L[j]? = some v → L[k]? = some w → zd3 u.1 v.1 w.1 ≠ 0 → zfit L L.length (zXb (ztr u.1 v.1 w.1)) → ∃ p, p < np ∧ zPo O p (zXb (ztr u.1 v.1 w.1))
theorem zIv_T {L : List (zV × Nat)} {T T2 : Nat → Nat → Nat → Prop} {B B2 : Nat} {O0 O : zSt} {np : Nat} (h : zIv L T B O0 O np) (hT : ∀ i j k, i < j → j < k → k < L.length → T2 i j k → T i j k) (hB : np ≤ B → np ≤ B2) : zIv L T2 B2 O0 O np :=
  ⟨h.1, h.2.1, hB h.2.2.1, h.2.2.2.1, fun i j k u v w h1 h2 ht hu hv hw => h.2.2.2.2 i j k u v w h1 h2 (hT i j k h1 h2 (List.getElem?_eq_some_iff.mp hw).1 ht) hu hv hw⟩
theorem zXb_b4 {t : Nat → zV} (h0 : zvb (t 0)) (h1 : zvb (t 1)) (h2 : zvb (t 2)) : (∀ n, n < 3 → zab (zco (zXb t) n) 23619600) ∧ zab (zXb t).2.2.2 23619600 := by
  refine ⟨fun n hn => ?_, zab_le (zsc_b h0 h1 h2) (by omega)⟩
  rw [zco_Xb t hn]
  exact zc_b3 h0 h1 h2 (zvbE n)
theorem zfp_42 {L : List (zV × Nat)} {O0 : zSt} (hlen : L.length ≤ 12) (hb : ∀ (k : Nat) (v : zV × Nat), L[k]? = some v → zvb v.1 ∧ v.2 < 3) (hL : zPl O0 L) (k14 : zSt → Int32 → Option zSt) (k27 : zSt → Int32 → Int32 → Option zSt) {i j : Nat} (hij : i < j) (hjl : j < L.length) : ∀ (d k f np : Nat) (O : zSt), k + d = L.length → d < f → j < k → zIv L (fun a b c => a < i ∨ (a = i ∧ (b < j ∨ (b = j ∧ c < k)))) (zw i + (zg j - zg (i + 1)) + (k - (j + 1))) O0 O np → ∃ O2 np2, zIv L (fun a b c => a < i ∨ (a = i ∧ b < j + 1)) (zw i + (zg (j + 1) - zg (i + 1))) O0 O2 np2 ∧ fX12_findsPoints_42 k14 k27 f O (zI i) (zI j) (zI k) = k27 O2 (zI i) (zI (j + 1))
  | 0, k, f + 1, np, O, hk, hf, hjk, hI => by
    have h31 : zgi O 31 = zI L.length := (zPl_fq hL hI.1).1
    refine ⟨O, np, zIv_T hI (fun a b c h1 h2 h3 h4 => by omega) (fun h => ?_), ?_⟩
    · have e : zg (j + 1) = zg j + if j = 0 then 0 else 11 - j := rfl
      rw [if_neg (by omega)] at e
      have hm := zg_mono (show i + 1 ≤ j by omega)
      omega
    · rw [fX12_findsPoints_42, h31, if_pos (by rw [zI_le (by omega) (by omega)]; omega), zlq, zn1, zI_add]
  | d + 1, k, f + 1, np, O, hk, hf, hjk, hI => by
    have hP := zPl_fq hL hI.1
    have h31 : zgi O 31 = zI L.length := hP.1
    obtain ⟨u, hu⟩ : ∃ u, L[i]? = some u := ⟨L[i]'(by omega), List.getElem?_eq_getElem (by omega)⟩
    obtain ⟨v, hv⟩ : ∃ v, L[j]? = some v := ⟨L[j]'(by omega), List.getElem?_eq_getElem (by omega)⟩
    obtain ⟨w, hw⟩ : ∃ w, L[k]? = some w := ⟨L[k]'(by omega), List.getElem?_eq_getElem (by omega)⟩
    obtain ⟨y, O1, g1, g2⟩ := eX12_solves hP (by omega) (fun k v h => (hb k v h).1) hu hv hw
    rw [fX12_findsPoints_42, h31, if_neg (by rw [zI_le (by omega) (by omega)]; omega), g1, zbq]
    have next : ∀ O3 np3, zIv L (fun a b c => a < i ∨ (a = i ∧ (b < j ∨ (b = j ∧ c < k + 1)))) (zw i + (zg j - zg (i + 1)) + (k + 1 - (j + 1))) O0 O3 np3 → ∃ O2 np2, zIv L (fun a b c => a < i ∨ (a = i ∧ b < j + 1)) (zw i + (zg (j + 1) - zg (i + 1))) O0 O2 np2 ∧ fX12_findsPoints_148 k14 k27 (fX12_findsPoints_42 k14 k27 f) O3 (zI i) (zI j) (zI k) = k27 O2 (zI i) (zI (j + 1)) := by
      intro O3 np3 h3
      obtain ⟨O2, np2, q1, q2⟩ := zfp_42 hlen hb hL k14 k27 hij hjl d (k + 1) f np3 O3 (by omega) (by omega) (by omega) h3
      refine ⟨O2, np2, q1, ?_⟩
      unfold fX12_findsPoints_148
      rw [zlq, zn1, zI_add]
      exact q2
    have skip : ∀ O3, zFq O O3 → zKp np O O3 → zgi O3 32 = zgi O 32 → (zd3 u.1 v.1 w.1 = 0 ∨ ¬ zfit L L.length (zXb (ztr u.1 v.1 w.1))) → zIv L (fun a b c => a < i ∨ (a = i ∧ (b < j ∨ (b = j ∧ c < k + 1)))) (zw i + (zg j - zg (i + 1)) + (k + 1 - (j + 1))) O0 O3 np := by
      intro O3 hF hK h32 hno
      refine ⟨hI.1.trans hF, by rw [h32]; exact hI.2.1, by have := hI.2.2.1; omega, fun p hp => ?_, fun a b c u2 v2 w2 h1 h2 ht hu2 hv2 hw2 hd hfit => ?_⟩
      · obtain ⟨a, b, c, u2, v2, w2, q1, q2, q3, q4, q5, q6, q7, q8⟩ := hI.2.2.2.1 p hp
        exact ⟨a, b, c, u2, v2, w2, q1, q2, q3, q4, q5, q6, q7, zPo_kp q8 hp hK⟩
      · by_cases cc : a = i ∧ b = j ∧ c = k
        · obtain ⟨rfl, rfl, rfl⟩ := cc
          rw [hu] at hu2; rw [hv] at hv2; rw [hw] at hw2
          cases hu2; cases hv2; cases hw2
          rcases hno with h | h
          · exact absurd h hd
          · exact absurd hfit h
        · obtain ⟨p, hp, hpo⟩ := hI.2.2.2.2 a b c u2 v2 w2 h1 h2 (by omega) hu2 hv2 hw2 hd hfit
          exact ⟨p, hp, zPo_kp hpo hp hK⟩
    rcases g2 with ⟨y0, hd0, hO⟩ | ⟨y1, hd, hF, hS⟩
    · subst hO
      rw [if_pos y0]
      exact next O1 np (skip O1 ⟨fun _ _ => rfl, fun _ => rfl, fun _ _ => rfl, fun _ _ _ _ => rfl⟩ ⟨fun _ _ => rfl, fun _ _ => ⟨rfl, rfl⟩⟩ rfl (Or.inl hd0))
    · have hne : ¬ y = 0 := by rw [y1]; decide
      have hFq : zFq O O1 := ⟨fun k _ => hF.1 k, hF.2.1, fun k _ => hF.2.2.1 k, fun k _ _ h => hF.2.2.2 k h⟩
      have hKp : zKp np O O1 := ⟨fun k _ => by rw [hF.2.2.2 21 (by omega)], fun p _ => ⟨by rw [hF.2.2.2 22 (by omega)], by rw [hF.2.2.1 25]⟩⟩
      have hP1 := zPl_fb hP hF
      obtain ⟨z, m1, m2⟩ := eX12_fits hP1 (by omega) (fun k v h => (hb k v h).1) (fun k v h => (hb k v h).2) hS (zXb_b4 (hb i u hu).1 (hb j v hv).1 (hb k w hw).1) (Nat.le_refl _)
      rw [if_neg hne, hF.1 31, h31, m1, zbq]
      rcases m2 with ⟨z1, hfit⟩ | ⟨z0, hnf⟩
      · have hzne : ¬ z = 0 := by rw [z1]; decide
        rw [if_neg hzne]
        have hnp : np < 600 := by
          have h1 := hI.2.2.1
          have h2 := zg_le (show j ≤ 12 by omega)
          have h3 := zw_le (show i ≤ 12 by omega)
          omega
        obtain ⟨O3, s1, s2, s3, s4, s5⟩ := zsto_80 k14 k27 (fX12_findsPoints_42 k14 k27 f) (zI i) (zI j) (zI k) hS (by rw [hF.1]; exact hI.2.1) hnp 3 0 6000 O1 (by omega) (by omega) ⟨fun _ _ => rfl, fun _ => rfl, fun _ _ => rfl, fun _ _ _ _ => rfl⟩ (by rw [hF.1]; exact hI.2.1) rfl ⟨fun _ _ => rfl, fun _ _ => ⟨rfl, rfl⟩⟩ (fun k hk => by omega)
        rw [zn0, s5]
        refine next O3 (np + 1) ⟨(hI.1.trans hFq).trans s1, s2, by have := hI.2.2.1; omega, fun p hp => ?_, fun a b c u2 v2 w2 h1 h2 ht hu2 hv2 hw2 hd2 hfit2 => ?_⟩
        · by_cases cp : p < np
          · obtain ⟨a, b, c, u2, v2, w2, q1, q2, q3, q4, q5, q6, q7, q8⟩ := hI.2.2.2.1 p cp
            exact ⟨a, b, c, u2, v2, w2, q1, q2, q3, q4, q5, q6, q7, zPo_kp (zPo_kp q8 cp hKp) cp s3⟩
          · have : p = np := by omega
            subst this
            exact ⟨i, j, k, u, v, w, hij, hjk, hu, hv, hw, hd, hfit, s4⟩
        · by_cases cc : a = i ∧ b = j ∧ c = k
          · obtain ⟨rfl, rfl, rfl⟩ := cc
            rw [hu] at hu2; rw [hv] at hv2; rw [hw] at hw2
            cases hu2; cases hv2; cases hw2
            exact ⟨np, by omega, s4⟩
          · obtain ⟨p, hp, hpo⟩ := hI.2.2.2.2 a b c u2 v2 w2 h1 h2 (by omega) hu2 hv2 hw2 hd2 hfit2
            exact ⟨p, by omega, zPo_kp (zPo_kp hpo hp hKp) hp s3⟩
      · rw [if_pos z0]
        exact next O1 np (skip O1 hFq hKp (hF.1 32) (Or.inr hnf))
theorem zfp_27 {L : List (zV × Nat)} {O0 : zSt} (hlen : L.length ≤ 12) (hb : ∀ (k : Nat) (v : zV × Nat), L[k]? = some v → zvb v.1 ∧ v.2 < 3) (hL : zPl O0 L) (k14 : zSt → Int32 → Option zSt) {i : Nat} (hi : i < L.length) : ∀ (d j f np : Nat) (O : zSt), j + d = L.length → d < f → i < j → zIv L (fun a b c => a < i ∨ (a = i ∧ b < j)) (zw i + (zg j - zg (i + 1))) O0 O np → ∃ O2 np2, zIv L (fun a b c => a < i + 1) (zw (i + 1)) O0 O2 np2 ∧ fX12_findsPoints_27 k14 f O (zI i) (zI j) = k14 O2 (zI (i + 1))
  | 0, j, f + 1, np, O, hj, hf, hij, hI => by
    have h31 : zgi O 31 = zI L.length := (zPl_fq hL hI.1).1
    refine ⟨O, np, zIv_T hI (fun a b c h1 h2 h3 h4 => by omega) (fun h => ?_), ?_⟩
    · have h1 := zg_le (show j ≤ 12 by omega)
      have e : zw (i + 1) = zw i + (55 - zg (i + 1)) := rfl
      omega
    · rw [fX12_findsPoints_27, h31, if_pos (by rw [zI_le (by omega) (by omega)]; omega), zlq, zn1, zI_add]
  | d + 1, j, f + 1, np, O, hj, hf, hij, hI => by
    have h31 : zgi O 31 = zI L.length := (zPl_fq hL hI.1).1
    rw [fX12_findsPoints_27, h31, if_neg (by rw [zI_le (by omega) (by omega)]; omega), zlq, zn1, zI_add]
    obtain ⟨O1, np1, q1, q2⟩ := zfp_42 hlen hb hL k14 (fX12_findsPoints_27 k14 f) hij (by omega) (L.length - (j + 1)) (j + 1) 6000 np O (by omega) (by omega) (by omega) (zIv_T hI (fun a b c h1 h2 h3 h4 => by omega) (fun h => by omega))
    obtain ⟨O2, np2, r1, r2⟩ := zfp_27 hlen hb hL k14 hi d (j + 1) f np1 O1 (by omega) (by omega) (by omega) q1
    exact ⟨O2, np2, r1, by rw [q2, r2]⟩
theorem zfp_14 {L : List (zV × Nat)} {O0 : zSt} (hlen : L.length ≤ 12) (hb : ∀ (k : Nat) (v : zV × Nat), L[k]? = some v → zvb v.1 ∧ v.2 < 3) (hL : zPl O0 L) : ∀ (d i f np : Nat) (O : zSt), i + d = L.length → d < f → zIv L (fun a b c => a < i) (zw i) O0 O np → ∃ O2 np2, zIv L (fun _ _ _ => True) 220 O0 O2 np2 ∧ fX12_findsPoints_14 f O (zI i) = some O2
  | 0, i, f + 1, np, O, hi, hf, hI => by
    have h31 : zgi O 31 = zI L.length := (zPl_fq hL hI.1).1
    refine ⟨O, np, zIv_T hI (fun a b c h1 h2 h3 h4 => by omega) (fun h => Nat.le_trans h (zw_le (by omega))), ?_⟩
    rw [fX12_findsPoints_14, h31, if_pos (by rw [zI_le (by omega) (by omega)]; omega)]
  | d + 1, i, f + 1, np, O, hi, hf, hI => by
    have h31 : zgi O 31 = zI L.length := (zPl_fq hL hI.1).1
    rw [fX12_findsPoints_14, h31, if_neg (by rw [zI_le (by omega) (by omega)]; omega), zlq, zn1, zI_add]
    obtain ⟨O1, np1, q1, q2⟩ := zfp_27 hlen hb hL (fX12_findsPoints_14 f) (show i < L.length by omega) (L.length - (i + 1)) (i + 1) 6000 np O (by omega) (by omega) (by omega) (zIv_T hI (fun a b c h1 h2 h3 h4 => by omega) (fun h => by omega))
    obtain ⟨O2, np2, r1, r2⟩ := zfp_14 hlen hb hL d (i + 1) f np1 O1 (by omega) (by omega) q1
    exact ⟨O2, np2, r1, by rw [q2, r2]⟩
/-- the points of the planes L -/
def zPts (L : List (zV × Nat)) (O : zSt) (np : Nat) : Prop :=
  zgi O 32 = zI np ∧ np ≤ 220 ∧
  (∀ p, p < np → ∃ (i j k : Nat) (u v w : zV × Nat), i < j ∧ j < k ∧ L[i]? = some u ∧ L[j]? = some v ∧ L[k]? = some w ∧ zd3 u.1 v.1 w.1 ≠ 0 ∧ zfit L L.length (zXb (ztr u.1 v.1 w.1)) ∧ zPo O p (zXb (ztr u.1 v.1 w.1))) ∧
  ∀ (i j k : Nat) (u v w : zV × Nat), i < j → j < k → L[i]? = some u → L[j]? = some v → L[k]? = some w → zd3 u.1 v.1 w.1 ≠ 0 → zfit L L.length (zXb (ztr u.1 v.1 w.1)) → ∃ p, p < np ∧ zPo O p (zXb (ztr u.1 v.1 w.1))
/-- what findsPoints changes -/
def zFP (A B : zSt) : Prop := (∀ k, k ≠ 31 → k ≠ 32 → zgi B k = zgi A k) ∧ (∀ k, zgl B k = zgl A k) ∧ (∀ k, k ≠ 24 → k ≠ 25 → zga B k = zga A k) ∧ ∀ k, (k < 19 ∨ k = 23 ∨ 27 < k) → zgb B k = zgb A k
theorem eX12_findsPoints {n m : Nat} {O : zSt} (x1 x2 : Int32) (hm6 : znb x1 m ≤ 6) (hO : zOw2 n m O) : ∃ O2 np, fX12_findsPoints O x1 x2 = some O2 ∧ zFP O O2 ∧ zPts (zPLs O n m x1 x2 false) O2 np := by
  obtain ⟨O1, f1, f2, f3⟩ := eX12_lays (n := n) (m := m) (O := O) x1 x2 0 false (by decide) hm6 hO
  have hlen := zPLs_len (n := n) (O := O) x1 x2 false hm6
  have hb := zPLs_b x1 x2 false hO
  have hPl : zPl (zsi O1 32 (zI 0)) (zPLs O n m x1 x2 false) := ⟨by rw [gi_sin (by omega)]; exact f3.1, f3.2⟩
  unfold fX12_findsPoints
  rw [f1, zbq, zlq, zn0]
  obtain ⟨O2, np, g1, g2⟩ := zfp_14 hlen hb hPl (zPLs O n m x1 x2 false).length 0 6000 0 (zsi O1 32 (zI 0)) (by omega) (by omega) ⟨⟨fun _ _ => rfl, fun _ => rfl, fun _ _ => rfl, fun _ _ _ _ => rfl⟩, gi_si, Nat.le_refl 0, fun p hp => by omega, fun i j k u v w _ _ ht => by omega⟩
  obtain ⟨g3, g4, g5, g6, g7⟩ := g1
  refine ⟨O2, np, g2, ⟨fun k h1 h2 => ?_, fun k => ?_, fun k h1 h2 => ?_, fun k h => ?_⟩, g4, g5, g6, fun i j k u v w h1 h2 => g7 i j k u v w h1 h2 trivial⟩
  · rw [g3.1 k h2, gi_sin h2, f2.1 k h1]
  · rw [g3.2.1 k]; exact f2.2.1 k
  · rw [g3.2.2.1 k h2, ga_si, f2.2.2.1 k h1]
  · rw [g3.2.2.2 k (by omega) (by omega) (by omega), gb_si, f2.2.2.2 k (by omega) (by omega)]

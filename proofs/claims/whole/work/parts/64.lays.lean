/-! 64: the planes that the reference lays, as a list. -/
/-! reads behind writes, no proofs by rfl (see zlq) -/
theorem zqe {α : Type} {a b : α} (h : a = b) : a = b := by
  have g : ∀ x, x = b → a = x := fun x hx => by rw [hx]; exact h
  exact g _ rfl
theorem qgi_sl {σ : zSt} {k j : Nat} {v : Int64} : zgi (zsl σ k v) j = zgi σ j := zqe rfl
theorem qgi_sa {σ : zSt} {k j : Nat} {v : Nat → Int32} : zgi (zsa σ k v) j = zgi σ j := zqe rfl
theorem qgi_sb {σ : zSt} {k j : Nat} {v : Nat → Int64} : zgi (zsb σ k v) j = zgi σ j := zqe rfl
theorem qgl_si {σ : zSt} {k j : Nat} {v : Int32} : zgl (zsi σ k v) j = zgl σ j := zqe rfl
theorem qgl_sa {σ : zSt} {k j : Nat} {v : Nat → Int32} : zgl (zsa σ k v) j = zgl σ j := zqe rfl
theorem qgl_sb {σ : zSt} {k j : Nat} {v : Nat → Int64} : zgl (zsb σ k v) j = zgl σ j := zqe rfl
theorem qga_si {σ : zSt} {k j : Nat} {v : Int32} : zga (zsi σ k v) j = zga σ j := zqe rfl
theorem qga_sl {σ : zSt} {k j : Nat} {v : Int64} : zga (zsl σ k v) j = zga σ j := zqe rfl
theorem qga_sb {σ : zSt} {k j : Nat} {v : Nat → Int64} : zga (zsb σ k v) j = zga σ j := zqe rfl
theorem qgb_si {σ : zSt} {k j : Nat} {v : Int32} : zgb (zsi σ k v) j = zgb σ j := zqe rfl
theorem qgb_sl {σ : zSt} {k j : Nat} {v : Int64} : zgb (zsl σ k v) j = zgb σ j := zqe rfl
theorem qgb_sa {σ : zSt} {k j : Nat} {v : Nat → Int32} : zgb (zsa σ k v) j = zgb σ j := zqe rfl
def zFp (O O2 : zSt) : Prop := (∀ k, k ≠ 31 → zgi O2 k = zgi O k) ∧ (∀ k, zgl O2 k = zgl O k) ∧ (∀ k, k ≠ 24 → zga O2 k = zga O k) ∧ ∀ k, k ≠ 19 → k ≠ 20 → zgb O2 k = zgb O k
theorem zFp.refl (O : zSt) : zFp O O := ⟨fun _ _ => rfl, fun _ => rfl, fun _ _ => rfl, fun _ _ _ => rfl⟩
theorem zFp.trans {A B C : zSt} (h : zFp A B) (g : zFp B C) : zFp A C := ⟨fun k hk => (g.1 k hk).trans (h.1 k hk), fun k => (g.2.1 k).trans (h.2.1 k), fun k hk => (g.2.2.1 k hk).trans (h.2.2.1 k hk), fun k h1 h2 => (g.2.2.2 k h1 h2).trans (h.2.2.2 k h1 h2)⟩
/-- one plane more -/
def zAp (O : zSt) (a b c : Int64) (kd : Int32) (e : Int64) : zSt :=
  let k := (zgi O 31).toNatClampNeg
  let O1 := zsb O 19 (vp_updL (zgb O 19) (3 * k) a)
  let O2 := zsb O1 19 (vp_updL (zgb O1 19) (3 * k + 1) b)
  let O3 := zsb O2 19 (vp_updL (zgb O2 19) (3 * k + 2) c)
  let O4 := zsa O3 24 (upd (zga O3 24) k kd)
  let O5 := zsb O4 20 (vp_updL (zgb O4 20) k e)
  zsi O5 31 (zI (k + 1))
theorem zAp_eq {O : zSt} {k : Nat} (h31 : zgi O 31 = zI k) (hk : k < 16) (a b c e : Int64) (kd : Int32) : fX12_addPlane O a b c kd e = some (zAp O a b c kd e) := by
  have hn : (zgi O 31).toNatClampNeg = k := by rw [h31, zI_nat (by omega)]
  unfold fX12_addPlane zAp
  simp (disch := omega) only [hn, h31, zn1, zn2, zn3, zI_mul, zI_add, zin_zI, if_true, zI_nat, zlq, qgi_sb, qgi_sa]
theorem zAp_pl {O : zSt} {L : List (zV × Nat)} (h : zPl O L) (hlen : L.length < 16) (a b c e : Int64) (kd : Nat) (ee : Int) (he : -e.toInt = ee) : zPl (zAp O a b c (zI kd) e) (L ++ [((a.toInt, b.toInt, c.toInt, ee), kd)]) := by
  have hn : (zgi O 31).toNatClampNeg = L.length := by rw [h.1, zI_nat (by omega)]
  refine ⟨?_, fun k v hv => ?_⟩
  · unfold zAp
    simp only [gi_si, hn, List.length_append, List.length_cons, List.length_nil]
  · unfold zAp
    simp (disch := omega) only [hn, gb_si, ga_si, gb_sb, gb_sbn, gb_sa, ga_sa, ga_sb]
    by_cases ck : k < L.length
    · rw [List.getElem?_append_left ck] at hv
      have h3 := h.2 k v hv
      refine ⟨?_, ?_, ?_, ?_, ?_⟩
      · rw [updL_n (by omega), updL_n (by omega), updL_n (by omega)]; exact h3.1
      · rw [updL_n (by omega), updL_n (by omega), updL_n (by omega)]; exact h3.2.1
      · rw [updL_n (by omega), updL_n (by omega), updL_n (by omega)]; exact h3.2.2.1
      · rw [updL_n (by omega)]; exact h3.2.2.2.1
      · rw [upd_n (by omega)]; exact h3.2.2.2.2
    · rw [List.getElem?_append_right (by omega)] at hv
      have hk2 : k - L.length = 0 := by
        by_cases c0 : k - L.length = 0
        · exact c0
        · rw [List.getElem?_eq_none (by simp; omega)] at hv; cases hv
      rw [hk2] at hv
      have hkL : k = L.length := by omega
      have hv2 : ((a.toInt, b.toInt, c.toInt, ee), kd) = v := Option.some.inj hv
      subst hv2 hkL
      refine ⟨?_, ?_, ?_, ?_, ?_⟩
      · rw [updL_n (by omega), updL_n (by omega), updL_s rfl]
      · rw [updL_n (by omega), updL_s rfl]
      · rw [updL_s rfl]
      · rw [updL_s rfl]
        show e.toInt = -ee
        omega
      · rw [upd_s rfl]
theorem zAp_fp (O : zSt) (a b c e : Int64) (kd : Int32) : zFp O (zAp O a b c kd e) := by
  unfold zAp
  refine ⟨fun k hk => ?_, fun k => rfl, fun k hk => ?_, fun k h1 h2 => ?_⟩
  · rw [gi_sin hk]; rfl
  · rw [ga_si, ga_sb, ga_san hk]; rfl
  · rw [gb_si, gb_sbn h2, gb_sa, gb_sbn h1, gb_sbn h1, gb_sbn h1]
theorem eX12_addPlane {O : zSt} {L : List (zV × Nat)} (h : zPl O L) (hlen : L.length < 16) (a b c e : Int64) (kd : Nat) (ee : Int) (he : -e.toInt = ee) : ∃ O2, fX12_addPlane O a b c (zI kd) e = some O2 ∧ zPl O2 (L ++ [((a.toInt, b.toInt, c.toInt, ee), kd)]) ∧ zFp O O2 := ⟨_, zAp_eq h.1 hlen a b c e (zI kd), zAp_pl h hlen a b c e kd ee he, zAp_fp O a b c e (zI kd)⟩
theorem eX12_addBound {O : zSt} {L : List (zV × Nat)} (h : zPl O L) (hlen : L.length < 16) (e : Int64) (i kd : Nat) (hi : i < 3) (ee : Int) (he : -e.toInt = ee) : ∃ O2, fX12_addBound O (zI i) (zI kd) e = some O2 ∧ zPl O2 (L ++ [((if i = 0 then 1 else 0, if i = 1 then 1 else 0, if i = 2 then 1 else 0, ee), kd)]) ∧ zFp O O2 := by
  have z1 : (1 : Int64).toInt = 1 := by decide
  have z0 : (0 : Int64).toInt = 0 := by decide
  rcases zlt3 hi with rfl | rfl | rfl
  · obtain ⟨O2, f1, f2, f3⟩ := eX12_addPlane h hlen 1 0 0 e kd ee he
    unfold fX12_addBound
    rw [if_pos (show zI 0 = 0 from rfl)]
    unfold fX12_addBound_10
    rw [if_neg (show ¬ zI 0 = 1 by decide)]
    unfold fX12_addBound_20
    rw [if_neg (show ¬ zI 0 = 2 by decide)]
    unfold fX12_addBound_30
    rw [f1]
    simp only [zbq]
    rw [z1, z0] at f2
    exact ⟨O2, rfl, f2, f3⟩
  · obtain ⟨O2, f1, f2, f3⟩ := eX12_addPlane h hlen 0 1 0 e kd ee he
    unfold fX12_addBound
    rw [if_neg (show ¬ zI 1 = 0 by decide)]
    unfold fX12_addBound_10
    rw [if_pos (show zI 1 = 1 from rfl)]
    unfold fX12_addBound_20
    rw [if_neg (show ¬ zI 1 = 2 by decide)]
    unfold fX12_addBound_30
    rw [f1]
    simp only [zbq]
    rw [z1, z0] at f2
    exact ⟨O2, rfl, f2, f3⟩
  · obtain ⟨O2, f1, f2, f3⟩ := eX12_addPlane h hlen 0 0 1 e kd ee he
    unfold fX12_addBound
    rw [if_neg (show ¬ zI 2 = 0 by decide)]
    unfold fX12_addBound_10
    rw [if_neg (show ¬ zI 2 = 1 by decide)]
    unfold fX12_addBound_20
    rw [if_pos (show zI 2 = 2 from rfl)]
    unfold fX12_addBound_30
    rw [f1]
    simp only [zbq]
    rw [z1, z0] at f2
    exact ⟨O2, rfl, f2, f3⟩
/-- a unit plane with its end -/
def zEp (i : Nat) (e : Int) : zV := (if i = 0 then 1 else 0, if i = 1 then 1 else 0, if i = 2 then 1 else 0, -e)
noncomputable def zPB (O : zSt) (n : Nat) (rays : Bool) (i : Nat) : List (zV × Nat) :=
  if i < n then [(zEp i (if rays then 0 else (zga O 0 i).toInt), 1)] ++ (if (100 : Int32) ≤ zga O 1 i then [] else [(zEp i (if rays then 0 else (zga O 1 i).toInt), 0)]) else [(zEp i 0, 2)]
noncomputable def zPBs (O : zSt) (n : Nat) (rays : Bool) : Nat → List (zV × Nat)
  | 0 => []
  | i + 1 => zPBs O n rays i ++ zPB O n rays i
/-- the bit of a row -/
def zbt (x : Int32) (r : Nat) : Prop := ((x >>> (zI r &&& (31 : Int32))) - (x >>> (zI r &&& (31 : Int32))) / (2 : Int32) * (2 : Int32)) = (1 : Int32)
def zRn (O : zSt) (x2 : Int32) (r : Nat) : Int := (zga O 4 r).toInt + (if zI r = x2 then 1 else 0)
noncomputable def zPR (O : zSt) (x1 x2 : Int32) (rays : Bool) (r : Nat) : List (zV × Nat) :=
  if ((x1 >>> (zI r &&& (31 : Int32))) - (x1 >>> (zI r &&& (31 : Int32))) / (2 : Int32) * (2 : Int32)) = (1 : Int32) then [(((zga O 2 (3 * r)).toInt, (zga O 2 (3 * r + 1)).toInt, (zga O 2 (3 * r + 2)).toInt, -(if rays then 0 else zRn O x2 r)), (zga O 3 r).toNatClampNeg)] else []
noncomputable def zPRs (O : zSt) (x1 x2 : Int32) (rays : Bool) : Nat → List (zV × Nat)
  | 0 => []
  | r + 1 => zPRs O x1 x2 rays r ++ zPR O x1 x2 rays r
noncomputable def zPLs (O : zSt) (n m : Nat) (x1 x2 : Int32) (rays : Bool) : List (zV × Nat) := zPBs O n rays 3 ++ zPRs O x1 x2 rays m
/-- how many of the first rows have their bits -/
noncomputable def znb (x : Int32) : Nat → Nat
  | 0 => 0
  | m + 1 => znb x m + if ((x >>> (zI m &&& (31 : Int32))) - (x >>> (zI m &&& (31 : Int32))) / (2 : Int32) * (2 : Int32)) = (1 : Int32) then 1 else 0
theorem zPB_len (O : zSt) (n : Nat) (rays : Bool) (i : Nat) : (zPB O n rays i).length ≤ 2 := by
  unfold zPB
  by_cases c : i < n
  · rw [if_pos c]
    by_cases c2 : (100 : Int32) ≤ zga O 1 i
    · rw [if_pos c2]; simp
    · rw [if_neg c2]; simp
  · rw [if_neg c]; simp
theorem zPBs_len (O : zSt) (n : Nat) (rays : Bool) (i : Nat) : (zPBs O n rays i).length ≤ 2 * i := by
  induction i with
  | zero => exact Nat.le_refl 0
  | succ i ih =>
    have := zPB_len O n rays i
    unfold zPBs
    rw [List.length_append]
    omega
theorem zPRs_len (O : zSt) (x1 x2 : Int32) (rays : Bool) (m : Nat) : (zPRs O x1 x2 rays m).length = znb x1 m := by
  induction m with
  | zero => rfl
  | succ m ih =>
    unfold zPRs znb
    rw [List.length_append, ih]
    unfold zPR
    split <;> simp
theorem znb_mono (x : Int32) {a b : Nat} (h : a ≤ b) : znb x a ≤ znb x b := by
  induction b with
  | zero => rw [show a = 0 by omega]; exact Nat.le_refl _
  | succ b ih =>
    by_cases c : a = b + 1
    · rw [c]; exact Nat.le_refl _
    · have h1 := ih (by omega)
      have e : znb x (b + 1) = znb x b + if ((x >>> (zI b &&& (31 : Int32))) - (x >>> (zI b &&& (31 : Int32))) / (2 : Int32) * (2 : Int32)) = (1 : Int32) then 1 else 0 := rfl
      omega
/-- what the planes' reads need of the program -/
def zOw2 (n m : Nat) (O : zSt) : Prop := n ≤ 3 ∧ m ≤ 12 ∧ zgi O 10 = zI n ∧ zgi O 11 = zI m ∧ (∀ i, i < 3 → zab (zga O 0 i).toInt 50 ∧ zab (zga O 1 i).toInt 100) ∧ ∀ r, r < m → (∀ i, i < 3 → zab (zga O 2 (3 * r + i)).toInt 9) ∧ (zga O 3 r = zI 0 ∨ zga O 3 r = zI 1 ∨ zga O 3 r = zI 2) ∧ zab (zga O 4 r).toInt 99
theorem zOw2_fp {n m : Nat} {O O2 : zSt} (h : zOw2 n m O) (hf : zFp O O2) : zOw2 n m O2 := by
  obtain ⟨f1, f2, f3, f4⟩ := hf
  unfold zOw2
  rw [f1 10 (by omega), f1 11 (by omega), f3 0 (by omega), f3 1 (by omega), f3 2 (by omega), f3 3 (by omega), f3 4 (by omega)]
  exact h
theorem zPL_fp {n m : Nat} {O O2 : zSt} (hf : zFp O O2) : (∀ rays i, zPB O2 n rays i = zPB O n rays i) ∧ ∀ x1 x2 rays r, zPR O2 x1 x2 rays r = zPR O x1 x2 rays r := by
  obtain ⟨f1, f2, f3, f4⟩ := hf
  refine ⟨fun rays i => ?_, fun x1 x2 rays r => ?_⟩
  · unfold zPB
    rw [f3 0 (by omega), f3 1 (by omega)]
  · unfold zPR zRn
    rw [f3 2 (by omega), f3 3 (by omega), f3 4 (by omega)]
theorem zlay_116 {n m : Nat} {x1 x2 x3 : Int32} {rays : Bool} {O0 : zSt} (h3 : x3 = if rays then 1 else 0) (hm6 : znb x1 m ≤ 6) (hO : zOw2 n m O0) (B : List (zV × Nat)) (hB : B.length ≤ 6) : ∀ (d r f : Nat) (O : zSt), r + d = m → d < f → zFp O0 O → zPl O (B ++ zPRs O0 x1 x2 rays r) → ∃ O2, fX12_laysPlanes_116 f O x1 x2 x3 (zI r) = some O2 ∧ zFp O0 O2 ∧ zPl O2 (B ++ zPRs O0 x1 x2 rays m)
  | 0, r, f + 1, O, hr, hf, hF, hL => by
    have hm := hO.2.1
    have w := zOw2_fp hO hF
    rw [fX12_laysPlanes_116, w.2.2.2.1]
    simp (disch := omega) only [zI_le_t, if_true]
    exact ⟨O, rfl, hF, by rw [← hr]; exact hL⟩
  | d + 1, r, f + 1, O, hr, hf, hF, hL => by
    have hm := hO.2.1
    have w := zOw2_fp hO hF
    obtain ⟨-, -, -, w4, w5, w6⟩ := w
    obtain ⟨c1, c2, c3⟩ := w6 r (by omega)
    have e : zPRs O0 x1 x2 rays (r + 1) = zPRs O0 x1 x2 rays r ++ zPR O0 x1 x2 rays r := rfl
    have eP := (zPL_fp (n := n) (m := m) hF).2 x1 x2 rays r
    have hlen := zPRs_len O0 x1 x2 rays r
    have hmono := znb_mono x1 (show r + 1 ≤ m by omega)
    have enb : znb x1 (r + 1) = znb x1 r + if ((x1 >>> (zI r &&& (31 : Int32))) - (x1 >>> (zI r &&& (31 : Int32))) / (2 : Int32) * (2 : Int32)) = (1 : Int32) then 1 else 0 := rfl
    rw [fX12_laysPlanes_116, w4]
    by_cases cb : ((x1 >>> (zI r &&& (31 : Int32))) - (x1 >>> (zI r &&& (31 : Int32))) / (2 : Int32) * (2 : Int32)) = (1 : Int32)
    · rw [if_pos cb] at enb
      have hk : zga O 3 r = zI (zga O 3 r).toNatClampNeg := by
        rcases c2 with e | e | e <;> rw [e, zI_nat (by omega)]
      have go : ∀ y : Int64, y.toInt = (if rays then 0 else zRn O x2 r) → ∃ O2, fX12_laysPlanes_205 (fX12_laysPlanes_116 f) O x1 x2 x3 (zI r) (zga O 2 (3 * r)).toInt64 (zga O 2 (3 * r + 1)).toInt64 (zga O 2 (3 * r + 2)).toInt64 (zga O 3 r) y = some O2 ∧ zFp O0 O2 ∧ zPl O2 (B ++ zPRs O0 x1 x2 rays m) := by
        intro y hy
        obtain ⟨O2, f1, f2, f3⟩ := eX12_addPlane hL (by rw [List.length_append]; omega) (zga O 2 (3 * r)).toInt64 (zga O 2 (3 * r + 1)).toInt64 (zga O 2 (3 * r + 2)).toInt64 y (zga O 3 r).toNatClampNeg (-(if rays then 0 else zRn O x2 r)) (by rw [hy])
        rw [← hk] at f1
        simp only [fX12_laysPlanes_205, f1, zbq, fX12_laysPlanes_208, zlq]
        rw [zn1, zI_add]
        refine zlay_116 h3 hm6 hO B hB d (r + 1) f O2 (by omega) (by omega) (hF.trans f3) ?_
        rw [z32_64, z32_64, z32_64] at f2
        rw [e, ← eP, ← List.append_assoc]
        unfold zPR
        rw [if_pos cb]
        exact f2
      rw [if_neg (by rw [zI_le (by omega) (by omega)]; omega), if_pos cb]
      simp (disch := omega) only [zn1, zn2, zn3, zI_mul, zI_add, zin_zI, if_true, zI_nat]
      cases rays with
      | false =>
        have h30 : x3 = 0 := h3
        rw [if_pos h30]
        have nb : zab (zga O 4 r).toInt64.toInt 99 := by rw [z32_64]; exact c3
        by_cases cr : zI r = x2
        · rw [if_pos cr]
          simp only [fX12_laysPlanes_204]
          refine go _ ?_
          have o1 : (1 : Int64).toInt = 1 := by decide
          rw [z64add (B := 1) nb (by rw [o1]; unfold zab; omega) (by omega), z32_64, o1]
          unfold zRn
          rw [if_pos cr]
          rfl
        · rw [if_neg cr]
          simp only [fX12_laysPlanes_204]
          refine go _ ?_
          have o1 : (0 : Int64).toInt = 0 := by decide
          rw [z64add (B := 1) nb (by rw [o1]; unfold zab; omega) (by omega), z32_64, o1]
          unfold zRn
          rw [if_neg cr]
          rfl
      | true =>
        have h31 : x3 = 1 := h3
        rw [if_neg (by rw [h31]; decide)]
        exact go 0 (by rw [if_pos rfl]; decide)
    · rw [if_neg cb] at enb
      rw [if_neg (by rw [zI_le (by omega) (by omega)]; omega), if_neg cb]
      simp only [fX12_laysPlanes_208, zlq]
      rw [zn1, zI_add]
      refine zlay_116 h3 hm6 hO B hB d (r + 1) f O (by omega) (by omega) hF ?_
      rw [e]
      unfold zPR
      rw [if_neg cb, List.append_nil]
      exact hL

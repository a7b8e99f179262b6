/-! what one seems: the fold of looks -/
noncomputable def pFo (kd : Nat) (f l : Int) (first : Bool) : Int := match kd with
  | 1 => max f l
  | 4 => max f l
  | 2 => if first = true then l else min f l
  | 3 => if first = true then l else f
  | 5 => if f = 0 ∨ l = 0 then f + l else min f l
  | _ => f + l
noncomputable def pTm (kd : Nat) (f : Int) (c : Nat) : Int := match kd with
  | 1 => f
  | 2 => f
  | 3 => f
  | 5 => f
  | 4 => if f = 0 then 0 else min (f + 1) 9
  | _ => f / c
noncomputable def pTe (kd : Nat) (f : Int) (c : Nat) : Int := if c = 0 then 0 else pTm kd f c
noncomputable def sF (G : Nat → Int) (kd a s : Nat) : Nat → Int × Nat
  | 0 => (0, 0)
  | b + 1 => if b ≠ a ∧ bt s b = true then (pFo kd (sF G kd a s b).1 (G (6 * a + b)) (decide ((sF G kd a s b).2 = 0)), (sF G kd a s b).2 + 1) else sF G kd a s b
/-- what a seems as a kind, in a set -/
noncomputable def pSeem (G : Nat → Int) (n kd a s : Nat) : Int := pTe kd (sF G kd a s n).1 (sF G kd a s n).2
theorem pFo_rg {kd : Nat} {f l m : Int} {b : Bool} (f0 : 0 ≤ f) (f1 : f ≤ m) (l0 : 0 ≤ l) (l1 : l ≤ 9) (m0 : 0 ≤ m) : 0 ≤ pFo kd f l b ∧ pFo kd f l b ≤ m + 9 := by
  unfold pFo
  (repeat' split) <;> omega
theorem sF_rg {G : Nat → Int} {a s : Nat} (hG : ∀ j, j < 36 → 0 ≤ G j ∧ G j ≤ 9) (ha : a < 6) (kd : Nat) : ∀ b, b ≤ 6 → 0 ≤ (sF G kd a s b).1 ∧ (sF G kd a s b).1 ≤ 9 * b ∧ (sF G kd a s b).2 ≤ b
  | 0, _ => ⟨Int.le_refl _, Int.le_refl _, Nat.le_refl _⟩
  | b + 1, hb => by
    obtain ⟨h1, h2, h3⟩ := sF_rg hG ha kd b (by omega)
    have hg := hG (6 * a + b) (by omega)
    unfold sF
    split
    · obtain ⟨k1, k2⟩ := pFo_rg (kd := kd) (b := decide ((sF G kd a s b).2 = 0)) h1 h2 hg.1 hg.2 (by omega)
      exact ⟨k1, by show pFo _ _ _ _ ≤ _; omega, by show (sF G kd a s b).2 + 1 ≤ b + 1; omega⟩
    · exact ⟨h1, by omega, by omega⟩
theorem sF_ct (G : Nat → Int) (kd kd1 a s : Nat) : ∀ b, (sF G kd a s b).2 = (sF G kd1 a s b).2
  | 0 => rfl
  | b + 1 => by
    have := sF_ct G kd kd1 a s b
    unfold sF
    split
    · show (sF G kd a s b).2 + 1 = (sF G kd1 a s b).2 + 1
      omega
    · exact this
theorem sF_z (G : Nat → Int) (kd a s : Nat) : ∀ b, (sF G kd a s b).2 = 0 → (sF G kd a s b).1 = 0
  | 0, _ => rfl
  | b + 1, h => by
    unfold sF at h ⊢
    split at h
    · cases h
    · rename_i hc
      rw [if_neg hc]
      exact sF_z G kd a s b h
theorem sF_4 (G : Nat → Int) (a s : Nat) : ∀ b, sF G 4 a s b = sF G 1 a s b
  | 0 => rfl
  | b + 1 => by
    unfold sF
    rw [sF_4 G a s b]
    rfl
section SEEM
variable {sc : List Int32} {d : Nat} {h : mH}
theorem fMax {a b : Int} (a1 : -100000 ≤ a) (a2 : a ≤ 2000000) (b1 : -100000 ≤ b) (b2 : b ≤ 2000000) : nEv sc (d + 1) 42 [sI a, sI b] h (some (sI (max a b)), h) := by
  refine nEv_of (t := mMe42) rfl ?_
  show nRn sc (d) (mMT mMe42) (mMC mMe42) (0, [some (sI a), some (sI b)], [], h) _
  refine sP 2 (g1 := (2, [some (sI a), some (sI b)], [sI b, sI a], h)) rfl ?_
  refine s_icmp (q := .lt) (a := a) (b := b) rfl ⟨_, rfl⟩ rfl (by unfold sR aMi aMa; omega) (by unfold sR aMi aMa; omega) (fun hc1 => ?_) (fun hc1 => ?_)
  · have hc1 : (a : Int) < b := hc1
    refine sP 1 (g1 := (6, [some (sI a), some (sI b)], [sI b], h)) rfl ?_
    exact s_reti rfl rfl (Or.inl rfl) (by omega) rfl
  · have hc1 : ¬ ((a : Int) < b) := hc1
    refine sP 2 (g1 := (6, [some (sI a), some (sI b)], [sI a], h)) rfl ?_
    exact s_reti rfl rfl (Or.inl rfl) (by omega) rfl
theorem fMin {a b : Int} (a1 : -100000 ≤ a) (a2 : a ≤ 2000000) (b1 : -100000 ≤ b) (b2 : b ≤ 2000000) : nEv sc (d + 1) 43 [sI a, sI b] h (some (sI (min a b)), h) := by
  refine nEv_of (t := mMe43) rfl ?_
  show nRn sc (d) (mMT mMe43) (mMC mMe43) (0, [some (sI a), some (sI b)], [], h) _
  refine sP 2 (g1 := (2, [some (sI a), some (sI b)], [sI b, sI a], h)) rfl ?_
  refine s_icmp (q := .gt) (a := a) (b := b) rfl ⟨_, rfl⟩ rfl (by unfold sR aMi aMa; omega) (by unfold sR aMi aMa; omega) (fun hc1 => ?_) (fun hc1 => ?_)
  · have hc1 : (b : Int) < a := hc1
    refine sP 1 (g1 := (6, [some (sI a), some (sI b)], [sI b], h)) rfl ?_
    exact s_reti rfl rfl (Or.inl rfl) (by omega) rfl
  · have hc1 : ¬ ((b : Int) < a) := hc1
    refine sP 2 (g1 := (6, [some (sI a), some (sI b)], [sI a], h)) rfl ?_
    exact s_reti rfl rfl (Or.inl rfl) (by omega) rfl
theorem fLess {a b : Int} (a1 : -100000 ≤ a) (a2 : a ≤ 2000000) (b1 : -100000 ≤ b) (b2 : b ≤ 2000000) : nEv sc (d + 1) 153 [sI a, sI b] h (some (sI (min a b)), h) := by
  refine nEv_of (t := mMe153) rfl ?_
  show nRn sc (d) (mMT mMe153) (mMC mMe153) (0, [some (sI a), some (sI b)], [], h) _
  refine sP 2 (g1 := (2, [some (sI a), some (sI b)], [sI a, sI b], h)) rfl ?_
  refine s_icmp (q := .ge) (a := b) (b := a) rfl ⟨_, rfl⟩ rfl (by unfold sR aMi aMa; omega) (by unfold sR aMi aMa; omega) (fun hc1 => ?_) (fun hc1 => ?_)
  · have hc1 : (a : Int) ≤ b := hc1
    refine sP 1 (g1 := (6, [some (sI a), some (sI b)], [sI a], h)) rfl ?_
    exact s_reti rfl rfl (Or.inl rfl) (by omega) rfl
  · have hc1 : ¬ ((a : Int) ≤ b) := hc1
    refine sP 2 (g1 := (6, [some (sI a), some (sI b)], [sI b], h)) rfl ?_
    exact s_reti rfl rfl (Or.inl rfl) (by omega) rfl
theorem fIsIn {s a : Nat} (hs : s < 64) (ha : a < 6) : nEv sc (d + 1) 39 [sI (s : Int), sI (a : Int)] h (some (sI (if bt s a = true then 1 else 0)), h) := by
  have hq : s / 2 ^ a < 64 := Nat.lt_of_le_of_lt (Nat.div_le_self s (2 ^ a)) hs
  have hm : s / 2 ^ a % 2 < 2 := Nat.mod_lt _ (by decide)
  refine nEv_of (t := mMe39) rfl ?_
  show nRn sc (d) (mMT mMe39) (mMC mMe39) (0, [some (sI ((s : Int))), some (sI ((a : Int)))], [], h) _
  refine sP 2 (g1 := (2, [some (sI ((s : Int))), some (sI ((a : Int)))], [sI ((a : Int)), sI ((s : Int))], h)) rfl ?_
  refine s_shr (s := s) (a := a) rfl rfl hs ha ?_
  refine sP 1 (g1 := (4, [some (sI ((s : Int))), some (sI ((a : Int)))], [sI 1, sI (((s / 2 ^ a : Nat) : Int))], h)) rfl ?_
  refine s_and1 (s := s / 2 ^ a) rfl rfl hq ?_
  refine s_ifc (q := .eq) (a := ((s / 2 ^ a % 2 : Nat) : Int)) rfl ⟨_, rfl⟩ rfl (by unfold sR aMi aMa; omega) (fun hc1 => ?_) (fun hc1 => ?_)
  · have hc1 : ((((s / 2 ^ a % 2 : Nat) : Int)) : Int) = 0 := hc1
    refine sP 1 (g1 := (9, [some (sI ((s : Int))), some (sI ((a : Int)))], [sI 0], h)) rfl ?_
    exact s_reti rfl rfl (Or.inr ⟨rfl, by omega⟩) (by unfold bt; split <;> (rename_i q; simp only [decide_eq_true_eq] at q; omega)) rfl
  · have hc1 : ¬ (((((s / 2 ^ a % 2 : Nat) : Int)) : Int) = 0) := hc1
    refine sP 2 (g1 := (9, [some (sI ((s : Int))), some (sI ((a : Int)))], [sI 1], h)) rfl ?_
    exact s_reti rfl rfl (Or.inr ⟨rfl, by omega⟩) (by unfold bt; split <;> (rename_i q; simp only [decide_eq_true_eq] at q; omega)) rfl
theorem fHas {s a : Nat} (hs : s < 64) (ha : a < 6) : nEv sc (d + 1) 149 [sI (s : Int), sI (a : Int)] h (some (sI (if bt s a = true then 1 else 0)), h) := by
  have hq : s / 2 ^ a < 64 := Nat.lt_of_le_of_lt (Nat.div_le_self s (2 ^ a)) hs
  have hm : s / 2 ^ a % 2 < 2 := Nat.mod_lt _ (by decide)
  refine nEv_of (t := mMe149) rfl ?_
  show nRn sc (d) (mMT mMe149) (mMC mMe149) (0, [some (sI ((s : Int))), some (sI ((a : Int)))], [], h) _
  refine sP 2 (g1 := (2, [some (sI ((s : Int))), some (sI ((a : Int)))], [sI ((a : Int)), sI ((s : Int))], h)) rfl ?_
  refine s_shr (s := s) (a := a) rfl rfl hs ha ?_
  refine sP 1 (g1 := (4, [some (sI ((s : Int))), some (sI ((a : Int)))], [sI 1, sI (((s / 2 ^ a : Nat) : Int))], h)) rfl ?_
  refine s_and1 (s := s / 2 ^ a) rfl rfl hq ?_
  refine sP 1 (g1 := (6, [some (sI ((s : Int))), some (sI ((a : Int)))], [sI 1, sI (((s / 2 ^ a % 2 : Nat) : Int))], h)) rfl ?_
  refine s_icmp (q := .ne) (a := ((s / 2 ^ a % 2 : Nat) : Int)) (b := 1) rfl ⟨_, rfl⟩ rfl (by unfold sR aMi aMa; omega) (by unfold sR aMi aMa; omega) (fun hc1 => ?_) (fun hc1 => ?_)
  · have hc1 : ((((s / 2 ^ a % 2 : Nat) : Int)) : Int) ≠ 1 := hc1
    refine sP 1 (g1 := (10, [some (sI ((s : Int))), some (sI ((a : Int)))], [sI 0], h)) rfl ?_
    exact s_reti rfl rfl (Or.inr ⟨rfl, by omega⟩) (by unfold bt; split <;> (rename_i q; simp only [decide_eq_true_eq] at q; omega)) rfl
  · have hc1 : ¬ (((((s / 2 ^ a % 2 : Nat) : Int)) : Int) ≠ 1) := hc1
    refine sP 2 (g1 := (10, [some (sI ((s : Int))), some (sI ((a : Int)))], [sI 1], h)) rfl ?_
    exact s_reti rfl rfl (Or.inr ⟨rfl, by omega⟩) (by unfold bt; split <;> (rename_i q; simp only [decide_eq_true_eq] at q; omega)) rfl
theorem ea_lk {e j : Nat} (he : e ∈ eAd) (hj : j < 36) : zCell (e + 2) j 0 9 = true := (show ∀ e ∈ eAd, ∀ j, j < 36 → zCell (e + 2) j 0 9 = true by decide +kernel) e he j hj
theorem ea_kd {e j : Nat} (he : e ∈ eAd) (hj : j < 6) : zCell (e + 1) j 0 5 = true := (show ∀ e ∈ eAd, ∀ j, j < 6 → zCell (e + 1) j 0 5 = true by decide +kernel) e he j hj
theorem nw_lk {j : Nat} (hj : j < 36) : zCell 58 (7 + j) 0 9 = true := (show ∀ j, j < 36 → zCell 58 (7 + j) 0 9 = true by decide +kernel) j hj
theorem nw_kd {j : Nat} (hj : j < 6) : zCell 58 (1 + j) 0 5 = true := (show ∀ j, j < 6 → zCell 58 (1 + j) 0 5 = true by decide +kernel) j hj
theorem fLookX {e a b : Nat} (hh : aHp h) (he : e ∈ eAd) (ha : a < 6) (hb : b < 6) : nEv sc (d + 1) 40 [.ref e, sI (a : Int), sI (b : Int)] h (some (sI (hI h (e + 2) (6 * a + b))), h) := by
  refine nEv_of (t := mMe40) rfl ?_
  show nRn sc (d) (mMT mMe40) (mMC mMe40) (0, [some (.ref e), some (sI ((a : Int))), some (sI ((b : Int)))], [], h) _
  refine sP 1 (g1 := (1, [some (.ref e), some (sI ((a : Int))), some (sI ((b : Int)))], [.ref e], h)) rfl ?_
  refine s_get (a := e) (j := 1) hh rfl ⟨_, rfl⟩ (ea_t he) rfl rfl (v := .ref (e + 2)) (hR_ok hh (ea_r2 he)) ?_
  refine sP 2 (g1 := (4, [some (.ref e), some (sI ((a : Int))), some (sI ((b : Int)))], [sI ((a : Int)), sI 6, .ref (e + 2)], h)) rfl ?_
  refine s_mul (a := 6) (b := (a : Int)) rfl rfl ?_
  refine sP 1 (g1 := (6, [some (.ref e), some (sI ((a : Int))), some (sI ((b : Int)))], [sI ((b : Int)), sI (6 * ((a : Int))), .ref (e + 2)], h)) rfl ?_
  refine s_add (a := 6 * ((a : Int))) (b := (b : Int)) rfl rfl ?_
  refine s_iald (a := e + 2) (n := 36) (j := (6 * ((a : Int))) + ((b : Int))) hh rfl rfl (ea_2 he) (by omega) (by omega) (by decide) (v := sI (hI h (e + 2) (6 * a + b))) (by rw [show ((6 * ((a : Int))) + ((b : Int))).toNat = 6 * a + b by omega]; exact hI_ok hh (ea_lk he (by omega))) ?_
  exact s_reti rfl rfl (Or.inl rfl) rfl rfl
theorem fLookM {a b : Nat} (hh : aHp h) (ha : a < 6) (hb : b < 6) : nEv sc (d + 1) 152 [.ref 53, sI (a : Int), sI (b : Int)] h (some (sI (hI h 58 (7 + (6 * a + b)))), h) := by
  refine nEv_of (t := mMe152) rfl ?_
  show nRn sc (d) (mMT mMe152) (mMC mMe152) (0, [some (.ref 53), some (sI ((a : Int))), some (sI ((b : Int)))], [], h) _
  refine sP 1 (g1 := (1, [some (.ref 53), some (sI ((a : Int))), some (sI ((b : Int)))], [.ref 53], h)) rfl ?_
  refine s_get (a := 53) (j := 4) hh rfl ⟨_, rfl⟩ rfl rfl rfl (v := .ref 58) (hR_ok hh (by decide +kernel)) ?_
  refine sP 3 (g1 := (5, [some (.ref 53), some (sI ((a : Int))), some (sI ((b : Int)))], [sI ((a : Int)), sI 6, sI 7, .ref 58], h)) rfl ?_
  refine s_mul (a := 6) (b := (a : Int)) rfl rfl ?_
  refine s_add (a := 7) (b := 6 * ((a : Int))) rfl rfl ?_
  refine sP 1 (g1 := (8, [some (.ref 53), some (sI ((a : Int))), some (sI ((b : Int)))], [sI ((b : Int)), sI (7 + (6 * ((a : Int)))), .ref 58], h)) rfl ?_
  refine s_add (a := 7 + (6 * ((a : Int)))) (b := (b : Int)) rfl rfl ?_
  refine s_iald (a := 58) (n := 201) (j := (7 + (6 * ((a : Int)))) + ((b : Int))) hh rfl rfl rfl (by omega) (by omega) (by decide) (v := sI (hI h 58 (7 + (6 * a + b)))) (by rw [show ((7 + (6 * ((a : Int)))) + ((b : Int))).toNat = 7 + (6 * a + b) by omega]; exact hI_ok hh (nw_lk (by omega))) ?_
  exact s_reti rfl rfl (Or.inl rfl) rfl rfl
theorem fFold {kd : Nat} {f l : Int} {first : Bool} (hk : kd < 6) (f0 : 0 ≤ f) (f1 : f ≤ 100) (l0 : 0 ≤ l) (l1 : l ≤ 9) : nEv sc (d + 2) 41 [sI (kd : Int), sI f, sI l, sI (if first = true then 1 else 0)] h (some (sI (pFo kd f l first)), h) := by
  refine nEv_of (t := mMe41) rfl ?_
  match kd, hk with
  | 0, _ =>
    show nRn sc (d + 1) (mMT mMe41) (mMC mMe41) (0, [some (sI 0), some (sI f), some (sI l), some (sI (if first = true then 1 else 0))], [], h) _
    refine sP 1 (g1 := (1, [some (sI 0), some (sI f), some (sI l), some (sI (if first = true then 1 else 0))], [sI 0], h)) rfl ?_
    refine s_tsw (k := 0) rfl ⟨_, _, _, _, rfl⟩ (by unfold sR aMi aMa; omega) rfl ?_
    refine sP 2 (g1 := (34, [some (sI 0), some (sI f), some (sI l), some (sI (if first = true then 1 else 0))], [sI l, sI f], h)) rfl ?_
    refine s_add (a := f) (b := l) rfl rfl ?_
    exact s_reti rfl rfl (Or.inl rfl) rfl rfl
  | 1, _ =>
    show nRn sc (d + 1) (mMT mMe41) (mMC mMe41) (0, [some (sI 1), some (sI f), some (sI l), some (sI (if first = true then 1 else 0))], [], h) _
    refine sP 1 (g1 := (1, [some (sI 1), some (sI f), some (sI l), some (sI (if first = true then 1 else 0))], [sI 1], h)) rfl ?_
    refine s_tsw (k := 1) rfl ⟨_, _, _, _, rfl⟩ (by unfold sR aMi aMa; omega) rfl ?_
    refine sP 2 (g1 := (4, [some (sI 1), some (sI f), some (sI l), some (sI (if first = true then 1 else 0))], [sI l, sI f], h)) rfl ?_
    refine s_call (k := 42) (args := [sI f, sI l]) (st := []) (v := some (sI (max f l))) (h1 := h) rfl ⟨rfl, rfl⟩ rfl rfl rfl rfl rfl rfl (fMax (by omega) (by omega) (by omega) (by omega)) ?_
    exact s_reti rfl rfl (Or.inl rfl) rfl rfl
  | 2, _ =>
    cases first with
    | false =>
      show nRn sc (d + 1) (mMT mMe41) (mMC mMe41) (0, [some (sI 2), some (sI f), some (sI l), some (sI 0)], [], h) _
      refine sP 1 (g1 := (1, [some (sI 2), some (sI f), some (sI l), some (sI 0)], [sI 2], h)) rfl ?_
      refine s_tsw (k := 2) rfl ⟨_, _, _, _, rfl⟩ (by unfold sR aMi aMa; omega) rfl ?_
      refine sP 1 (g1 := (7, [some (sI 2), some (sI f), some (sI l), some (sI 0)], [sI 0], h)) rfl ?_
      refine s_ifc (q := .eq) (a := 0) rfl ⟨_, rfl⟩ rfl (by unfold sR aMi aMa; omega) (fun hc1 => ?_) (fun hc1 => ?_)
      · have hc1 : (0 : Int) = 0 := hc1
        refine sP 2 (g1 := (12, [some (sI 2), some (sI f), some (sI l), some (sI 0)], [sI l, sI f], h)) rfl ?_
        refine s_call (k := 43) (args := [sI f, sI l]) (st := []) (v := some (sI (min f l))) (h1 := h) rfl ⟨rfl, rfl⟩ rfl rfl rfl rfl rfl rfl (fMin (by omega) (by omega) (by omega) (by omega)) ?_
        exact s_reti rfl rfl (Or.inl rfl) rfl rfl
      · have hc1 : ¬ ((0 : Int) = 0) := hc1
        omega
    | true =>
      show nRn sc (d + 1) (mMT mMe41) (mMC mMe41) (0, [some (sI 2), some (sI f), some (sI l), some (sI 1)], [], h) _
      refine sP 1 (g1 := (1, [some (sI 2), some (sI f), some (sI l), some (sI 1)], [sI 2], h)) rfl ?_
      refine s_tsw (k := 2) rfl ⟨_, _, _, _, rfl⟩ (by unfold sR aMi aMa; omega) rfl ?_
      refine sP 1 (g1 := (7, [some (sI 2), some (sI f), some (sI l), some (sI 1)], [sI 1], h)) rfl ?_
      refine s_ifc (q := .eq) (a := 1) rfl ⟨_, rfl⟩ rfl (by unfold sR aMi aMa; omega) (fun hc1 => ?_) (fun hc1 => ?_)
      · have hc1 : (1 : Int) = 0 := hc1
        omega
      · have hc1 : ¬ ((1 : Int) = 0) := hc1
        refine sP 2 (g1 := (13, [some (sI 2), some (sI f), some (sI l), some (sI 1)], [sI l], h)) rfl ?_
        exact s_reti rfl rfl (Or.inl rfl) rfl rfl
  | 3, _ =>
    cases first with
    | false =>
      show nRn sc (d + 1) (mMT mMe41) (mMC mMe41) (0, [some (sI 3), some (sI f), some (sI l), some (sI 0)], [], h) _
      refine sP 1 (g1 := (1, [some (sI 3), some (sI f), some (sI l), some (sI 0)], [sI 3], h)) rfl ?_
      refine s_tsw (k := 3) rfl ⟨_, _, _, _, rfl⟩ (by unfold sR aMi aMa; omega) rfl ?_
      refine sP 1 (g1 := (15, [some (sI 3), some (sI f), some (sI l), some (sI 0)], [sI 0], h)) rfl ?_
      refine s_ifc (q := .eq) (a := 0) rfl ⟨_, rfl⟩ rfl (by unfold sR aMi aMa; omega) (fun hc1 => ?_) (fun hc1 => ?_)
      · have hc1 : (0 : Int) = 0 := hc1
        refine sP 1 (g1 := (19, [some (sI 3), some (sI f), some (sI l), some (sI 0)], [sI f], h)) rfl ?_
        exact s_reti rfl rfl (Or.inl rfl) rfl rfl
      · have hc1 : ¬ ((0 : Int) = 0) := hc1
        omega
    | true =>
      show nRn sc (d + 1) (mMT mMe41) (mMC mMe41) (0, [some (sI 3), some (sI f), some (sI l), some (sI 1)], [], h) _
      refine sP 1 (g1 := (1, [some (sI 3), some (sI f), some (sI l), some (sI 1)], [sI 3], h)) rfl ?_
      refine s_tsw (k := 3) rfl ⟨_, _, _, _, rfl⟩ (by unfold sR aMi aMa; omega) rfl ?_
      refine sP 1 (g1 := (15, [some (sI 3), some (sI f), some (sI l), some (sI 1)], [sI 1], h)) rfl ?_
      refine s_ifc (q := .eq) (a := 1) rfl ⟨_, rfl⟩ rfl (by unfold sR aMi aMa; omega) (fun hc1 => ?_) (fun hc1 => ?_)
      · have hc1 : (1 : Int) = 0 := hc1
        omega
      · have hc1 : ¬ ((1 : Int) = 0) := hc1
        refine sP 2 (g1 := (19, [some (sI 3), some (sI f), some (sI l), some (sI 1)], [sI l], h)) rfl ?_
        exact s_reti rfl rfl (Or.inl rfl) rfl rfl
  | 4, _ =>
    show nRn sc (d + 1) (mMT mMe41) (mMC mMe41) (0, [some (sI 4), some (sI f), some (sI l), some (sI (if first = true then 1 else 0))], [], h) _
    refine sP 1 (g1 := (1, [some (sI 4), some (sI f), some (sI l), some (sI (if first = true then 1 else 0))], [sI 4], h)) rfl ?_
    refine s_tsw (k := 4) rfl ⟨_, _, _, _, rfl⟩ (by unfold sR aMi aMa; omega) rfl ?_
    refine sP 2 (g1 := (4, [some (sI 4), some (sI f), some (sI l), some (sI (if first = true then 1 else 0))], [sI l, sI f], h)) rfl ?_
    refine s_call (k := 42) (args := [sI f, sI l]) (st := []) (v := some (sI (max f l))) (h1 := h) rfl ⟨rfl, rfl⟩ rfl rfl rfl rfl rfl rfl (fMax (by omega) (by omega) (by omega) (by omega)) ?_
    exact s_reti rfl rfl (Or.inl rfl) rfl rfl
  | 5, _ =>
    show nRn sc (d + 1) (mMT mMe41) (mMC mMe41) (0, [some (sI 5), some (sI f), some (sI l), some (sI (if first = true then 1 else 0))], [], h) _
    refine sP 1 (g1 := (1, [some (sI 5), some (sI f), some (sI l), some (sI (if first = true then 1 else 0))], [sI 5], h)) rfl ?_
    refine s_tsw (k := 5) rfl ⟨_, _, _, _, rfl⟩ (by unfold sR aMi aMa; omega) rfl ?_
    refine sP 1 (g1 := (21, [some (sI 5), some (sI f), some (sI l), some (sI (if first = true then 1 else 0))], [sI f], h)) rfl ?_
    refine s_ifc (q := .eq) (a := f) rfl ⟨_, rfl⟩ rfl (by unfold sR aMi aMa; omega) (fun hc1 => ?_) (fun hc1 => ?_)
    · have hc1 : (f : Int) = 0 := hc1
      refine sP 2 (g1 := (26, [some (sI 5), some (sI f), some (sI l), some (sI (if first = true then 1 else 0))], [sI l, sI f], h)) rfl ?_
      refine s_add (a := f) (b := l) rfl rfl ?_
      refine sP 1 (g1 := (31, [some (sI 5), some (sI f), some (sI l), some (sI (if first = true then 1 else 0))], [sI (f + l)], h)) rfl ?_
      exact s_reti rfl rfl (Or.inl rfl) (by show _ = (if f = 0 ∨ l = 0 then f + l else min f l); first | rw [if_pos (by omega)] | rw [if_neg (by omega)]) rfl
    · have hc1 : ¬ ((f : Int) = 0) := hc1
      refine sP 1 (g1 := (23, [some (sI 5), some (sI f), some (sI l), some (sI (if first = true then 1 else 0))], [sI l], h)) rfl ?_
      refine s_ifc (q := .ne) (a := l) rfl ⟨_, rfl⟩ rfl (by unfold sR aMi aMa; omega) (fun hc2 => ?_) (fun hc2 => ?_)
      · have hc2 : (l : Int) ≠ 0 := hc2
        refine sP 2 (g1 := (30, [some (sI 5), some (sI f), some (sI l), some (sI (if first = true then 1 else 0))], [sI l, sI f], h)) rfl ?_
        refine s_call (k := 43) (args := [sI f, sI l]) (st := []) (v := some (sI (min f l))) (h1 := h) rfl ⟨rfl, rfl⟩ rfl rfl rfl rfl rfl rfl (fMin (by omega) (by omega) (by omega) (by omega)) ?_
        exact s_reti rfl rfl (Or.inl rfl) (by show _ = (if f = 0 ∨ l = 0 then f + l else min f l); first | rw [if_pos (by omega)] | rw [if_neg (by omega)]) rfl
      · have hc2 : ¬ ((l : Int) ≠ 0) := hc2
        refine sP 2 (g1 := (26, [some (sI 5), some (sI f), some (sI l), some (sI (if first = true then 1 else 0))], [sI l, sI f], h)) rfl ?_
        refine s_add (a := f) (b := l) rfl rfl ?_
        refine sP 1 (g1 := (31, [some (sI 5), some (sI f), some (sI l), some (sI (if first = true then 1 else 0))], [sI (f + l)], h)) rfl ?_
        exact s_reti rfl rfl (Or.inl rfl) (by show _ = (if f = 0 ∨ l = 0 then f + l else min f l); first | rw [if_pos (by omega)] | rw [if_neg (by omega)]) rfl
  | k + 6, hk => exact absurd hk (by omega)
theorem fTell {kd c : Nat} {f : Int} (hk : kd < 6) (f0 : 0 ≤ f) (f1 : f ≤ 100) (c1 : c ≤ 6) : nEv sc (d + 2) 44 [sI (kd : Int), sI f, sI (c : Int)] h (some (sI (pTe kd f c)), h) := by
  refine nEv_of (t := mMe44) rfl ?_
  by_cases hc : c = 0
  · have e1 : pTe kd f c = 0 := by unfold pTe; rw [if_pos hc]
    rw [e1]
    show nRn sc (d + 1) (mMT mMe44) (mMC mMe44) (0, [some (sI (kd : Int)), some (sI f), some (sI (c : Int))], [], h) _
    refine sP 1 (g1 := (1, [some (sI ((kd : Int))), some (sI f), some (sI ((c : Int)))], [sI ((c : Int))], h)) rfl ?_
    refine s_ifc (q := .gt) (a := (c : Int)) rfl ⟨_, rfl⟩ rfl (by unfold sR aMi aMa; omega) (fun hc1 => ?_) (fun hc1 => ?_)
    · have hc1 : (0 : Int) < ((c : Int)) := hc1
      omega
    · have hc1 : ¬ ((0 : Int) < ((c : Int))) := hc1
      refine sP 1 (g1 := (3, [some (sI ((kd : Int))), some (sI f), some (sI ((c : Int)))], [sI 0], h)) rfl ?_
      exact s_reti rfl rfl (Or.inl rfl) rfl rfl
  match kd, hk with
  | 0, _ =>
    show nRn sc (d + 1) (mMT mMe44) (mMC mMe44) (0, [some (sI 0), some (sI f), some (sI (c : Int))], [], h) _
    refine sP 1 (g1 := (1, [some (sI 0), some (sI f), some (sI ((c : Int)))], [sI ((c : Int))], h)) rfl ?_
    refine s_ifc (q := .gt) (a := (c : Int)) rfl ⟨_, rfl⟩ rfl (by unfold sR aMi aMa; omega) (fun hc1 => ?_) (fun hc1 => ?_)
    · have hc1 : (0 : Int) < ((c : Int)) := hc1
      refine sP 1 (g1 := (5, [some (sI 0), some (sI f), some (sI ((c : Int)))], [sI 0], h)) rfl ?_
      refine s_tsw (k := 0) rfl ⟨_, _, _, _, rfl⟩ (by unfold sR aMi aMa; omega) rfl ?_
      refine sP 2 (g1 := (20, [some (sI 0), some (sI f), some (sI ((c : Int)))], [sI ((c : Int)), sI f], h)) rfl ?_
      refine s_div (a := f) (b := (c : Int)) rfl rfl (by omega) (by omega) (by omega) (by omega) ?_
      exact s_reti rfl rfl (Or.inl rfl) (by unfold pTe; rw [if_neg hc]; rfl) rfl
    · have hc1 : ¬ ((0 : Int) < ((c : Int))) := hc1
      omega
  | 1, _ =>
    show nRn sc (d + 1) (mMT mMe44) (mMC mMe44) (0, [some (sI 1), some (sI f), some (sI (c : Int))], [], h) _
    refine sP 1 (g1 := (1, [some (sI 1), some (sI f), some (sI ((c : Int)))], [sI ((c : Int))], h)) rfl ?_
    refine s_ifc (q := .gt) (a := (c : Int)) rfl ⟨_, rfl⟩ rfl (by unfold sR aMi aMa; omega) (fun hc1 => ?_) (fun hc1 => ?_)
    · have hc1 : (0 : Int) < ((c : Int)) := hc1
      refine sP 1 (g1 := (5, [some (sI 1), some (sI f), some (sI ((c : Int)))], [sI 1], h)) rfl ?_
      refine s_tsw (k := 1) rfl ⟨_, _, _, _, rfl⟩ (by unfold sR aMi aMa; omega) rfl ?_
      refine sP 1 (g1 := (7, [some (sI 1), some (sI f), some (sI ((c : Int)))], [sI f], h)) rfl ?_
      exact s_reti rfl rfl (Or.inl rfl) (by unfold pTe; rw [if_neg hc]; rfl) rfl
    · have hc1 : ¬ ((0 : Int) < ((c : Int))) := hc1
      omega
  | 2, _ =>
    show nRn sc (d + 1) (mMT mMe44) (mMC mMe44) (0, [some (sI 2), some (sI f), some (sI (c : Int))], [], h) _
    refine sP 1 (g1 := (1, [some (sI 2), some (sI f), some (sI ((c : Int)))], [sI ((c : Int))], h)) rfl ?_
    refine s_ifc (q := .gt) (a := (c : Int)) rfl ⟨_, rfl⟩ rfl (by unfold sR aMi aMa; omega) (fun hc1 => ?_) (fun hc1 => ?_)
    · have hc1 : (0 : Int) < ((c : Int)) := hc1
      refine sP 1 (g1 := (5, [some (sI 2), some (sI f), some (sI ((c : Int)))], [sI 2], h)) rfl ?_
      refine s_tsw (k := 2) rfl ⟨_, _, _, _, rfl⟩ (by unfold sR aMi aMa; omega) rfl ?_
      refine sP 1 (g1 := (7, [some (sI 2), some (sI f), some (sI ((c : Int)))], [sI f], h)) rfl ?_
      exact s_reti rfl rfl (Or.inl rfl) (by unfold pTe; rw [if_neg hc]; rfl) rfl
    · have hc1 : ¬ ((0 : Int) < ((c : Int))) := hc1
      omega
  | 3, _ =>
    show nRn sc (d + 1) (mMT mMe44) (mMC mMe44) (0, [some (sI 3), some (sI f), some (sI (c : Int))], [], h) _
    refine sP 1 (g1 := (1, [some (sI 3), some (sI f), some (sI ((c : Int)))], [sI ((c : Int))], h)) rfl ?_
    refine s_ifc (q := .gt) (a := (c : Int)) rfl ⟨_, rfl⟩ rfl (by unfold sR aMi aMa; omega) (fun hc1 => ?_) (fun hc1 => ?_)
    · have hc1 : (0 : Int) < ((c : Int)) := hc1
      refine sP 1 (g1 := (5, [some (sI 3), some (sI f), some (sI ((c : Int)))], [sI 3], h)) rfl ?_
      refine s_tsw (k := 3) rfl ⟨_, _, _, _, rfl⟩ (by unfold sR aMi aMa; omega) rfl ?_
      refine sP 1 (g1 := (7, [some (sI 3), some (sI f), some (sI ((c : Int)))], [sI f], h)) rfl ?_
      exact s_reti rfl rfl (Or.inl rfl) (by unfold pTe; rw [if_neg hc]; rfl) rfl
    · have hc1 : ¬ ((0 : Int) < ((c : Int))) := hc1
      omega
  | 4, _ =>
    show nRn sc (d + 1) (mMT mMe44) (mMC mMe44) (0, [some (sI 4), some (sI f), some (sI (c : Int))], [], h) _
    refine sP 1 (g1 := (1, [some (sI 4), some (sI f), some (sI ((c : Int)))], [sI ((c : Int))], h)) rfl ?_
    refine s_ifc (q := .gt) (a := (c : Int)) rfl ⟨_, rfl⟩ rfl (by unfold sR aMi aMa; omega) (fun hc1 => ?_) (fun hc1 => ?_)
    · have hc1 : (0 : Int) < ((c : Int)) := hc1
      refine sP 1 (g1 := (5, [some (sI 4), some (sI f), some (sI ((c : Int)))], [sI 4], h)) rfl ?_
      refine s_tsw (k := 4) rfl ⟨_, _, _, _, rfl⟩ (by unfold sR aMi aMa; omega) rfl ?_
      refine sP 1 (g1 := (9, [some (sI 4), some (sI f), some (sI ((c : Int)))], [sI f], h)) rfl ?_
      refine s_ifc (q := .ne) (a := f) rfl ⟨_, rfl⟩ rfl (by unfold sR aMi aMa; omega) (fun hc2 => ?_) (fun hc2 => ?_)
      · have hc2 : (f : Int) ≠ 0 := hc2
        refine sP 2 (g1 := (14, [some (sI 4), some (sI f), some (sI ((c : Int)))], [sI 1, sI f], h)) rfl ?_
        refine s_add (a := f) (b := 1) rfl rfl ?_
        refine sP 1 (g1 := (16, [some (sI 4), some (sI f), some (sI ((c : Int)))], [sI 9, sI (f + 1)], h)) rfl ?_
        refine s_call (k := 43) (args := [sI (f + 1), sI 9]) (st := []) (v := some (sI (min (f + 1) 9))) (h1 := h) rfl ⟨rfl, rfl⟩ rfl rfl rfl rfl rfl rfl (fMin (by omega) (by omega) (by omega) (by omega)) ?_
        exact s_reti rfl rfl (Or.inl rfl) (by unfold pTe; rw [if_neg hc]; show _ = (if f = 0 then 0 else min (f + 1) 9); first | rw [if_pos (by omega)] | rw [if_neg (by omega)]) rfl
      · have hc2 : ¬ ((f : Int) ≠ 0) := hc2
        refine sP 2 (g1 := (17, [some (sI 4), some (sI f), some (sI ((c : Int)))], [sI 0], h)) rfl ?_
        exact s_reti rfl rfl (Or.inl rfl) (by unfold pTe; rw [if_neg hc]; show _ = (if f = 0 then 0 else min (f + 1) 9); first | rw [if_pos (by omega)] | rw [if_neg (by omega)]) rfl
    · have hc1 : ¬ ((0 : Int) < ((c : Int))) := hc1
      omega
  | 5, _ =>
    show nRn sc (d + 1) (mMT mMe44) (mMC mMe44) (0, [some (sI 5), some (sI f), some (sI (c : Int))], [], h) _
    refine sP 1 (g1 := (1, [some (sI 5), some (sI f), some (sI ((c : Int)))], [sI ((c : Int))], h)) rfl ?_
    refine s_ifc (q := .gt) (a := (c : Int)) rfl ⟨_, rfl⟩ rfl (by unfold sR aMi aMa; omega) (fun hc1 => ?_) (fun hc1 => ?_)
    · have hc1 : (0 : Int) < ((c : Int)) := hc1
      refine sP 1 (g1 := (5, [some (sI 5), some (sI f), some (sI ((c : Int)))], [sI 5], h)) rfl ?_
      refine s_tsw (k := 5) rfl ⟨_, _, _, _, rfl⟩ (by unfold sR aMi aMa; omega) rfl ?_
      refine sP 1 (g1 := (7, [some (sI 5), some (sI f), some (sI ((c : Int)))], [sI f], h)) rfl ?_
      exact s_reti rfl rfl (Or.inl rfl) (by unfold pTe; rw [if_neg hc]; rfl) rfl
    · have hc1 : ¬ ((0 : Int) < ((c : Int))) := hc1
      omega
  | k + 6, hk => exact absurd hk (by omega)
theorem eG {e : Nat} (hh : aHp h) (he : e ∈ eAd) : ∀ j, j < 36 → 0 ≤ hI h (e + 2) j ∧ hI h (e + 2) j ≤ 9 := fun j hj => hI_rg hh (ea_lk he hj)
/-- the class, from the loop's head -/
theorem fSeemL {e n kd a s : Nat} (hh : aHp h) (he : e ∈ eAd) (hn : hI h e 3 = n) (hk : kd < 6) (ha : a < 6) (hs : s < 64) : ∀ (k b : Nat), b + k = n → nRn sc (d + 2) (mMT mMe38) (mMC mMe38) (6, [some (.ref e), some (sI (kd : Int)), some (sI (a : Int)), some (sI (s : Int)), some (sI (sF (hI h (e + 2)) kd a s b).1), some (sI ((sF (hI h (e + 2)) kd a s b).2 : Int)), some (sI (b : Int))], [], h) (some (sI (pSeem (hI h (e + 2)) n kd a s)), h) := by
  have nn := hI_rg hh (ea_p he)
  intro k
  induction k with
  | zero =>
    intro b hb
    have hbn : b = n := by omega
    subst hbn
    obtain ⟨q1, q2, q3⟩ := sF_rg (G := hI h (e + 2)) (s := s) (eG hh he) ha kd b (by omega)
    refine sP 2 (g1 := (8, [some (.ref e), some (sI ((kd : Int))), some (sI ((a : Int))), some (sI ((s : Int))), some (sI ((sF (hI h (e + 2)) kd a s b).1)), some (sI (((sF (hI h (e + 2)) kd a s b).2 : Int))), some (sI ((b : Int)))], [.ref e, sI ((b : Int))], h)) rfl ?_
    refine s_get (a := e) (j := 3) hh rfl ⟨_, rfl⟩ (ea_t he) rfl rfl (v := sI (hI h e 3)) (hI_ok hh (ea_p he)) ?_
    refine s_icmp (q := .ge) (a := (b : Int)) (b := hI h e 3) rfl ⟨_, rfl⟩ rfl (by unfold sR aMi aMa; omega) (by unfold sR aMi aMa; omega) (fun hc1 => ?_) (fun hc1 => ?_)
    · have hc1 : ((hI h e 3) : Int) ≤ ((b : Int)) := hc1
      refine sP 3 (g1 := (36, [some (.ref e), some (sI ((kd : Int))), some (sI ((a : Int))), some (sI ((s : Int))), some (sI ((sF (hI h (e + 2)) kd a s b).1)), some (sI (((sF (hI h (e + 2)) kd a s b).2 : Int))), some (sI ((b : Int)))], [sI (((sF (hI h (e + 2)) kd a s b).2 : Int)), sI ((sF (hI h (e + 2)) kd a s b).1), sI ((kd : Int))], h)) rfl ?_
      refine s_call (k := 44) (args := [sI ((kd : Int)), sI ((sF (hI h (e + 2)) kd a s b).1), sI (((sF (hI h (e + 2)) kd a s b).2 : Int))]) (st := []) (v := some (sI (pSeem (hI h (e + 2)) b kd a s))) (h1 := h) rfl ⟨rfl, rfl⟩ rfl rfl rfl rfl rfl rfl (fTell hk (by omega) (by omega) (by omega)) ?_
      exact s_reti rfl rfl (Or.inl rfl) rfl rfl
    · have hc1 : ¬ (((hI h e 3) : Int) ≤ ((b : Int))) := hc1
      omega
  | succ k ih =>
    intro b hb
    have hb6 : b < 6 := by omega
    obtain ⟨q1, q2, q3⟩ := sF_rg (G := hI h (e + 2)) (s := s) (eG hh he) ha kd b (by omega)
    have qg := eG hh he (6 * a + b) (by omega)
    have r1 := ih (b + 1) (by omega)
    by_cases hc : b ≠ a ∧ bt s b = true
    · have e1 : sF (hI h (e + 2)) kd a s (b + 1) = (pFo kd (sF (hI h (e + 2)) kd a s b).1 (hI h (e + 2) (6 * a + b)) (decide ((sF (hI h (e + 2)) kd a s b).2 = 0)), (sF (hI h (e + 2)) kd a s b).2 + 1) := by
        show (if _ then _ else _) = _
        rw [if_pos hc]
      rw [e1] at r1
      refine sP 2 (g1 := (8, [some (.ref e), some (sI ((kd : Int))), some (sI ((a : Int))), some (sI ((s : Int))), some (sI ((sF (hI h (e + 2)) kd a s b).1)), some (sI (((sF (hI h (e + 2)) kd a s b).2 : Int))), some (sI ((b : Int)))], [.ref e, sI ((b : Int))], h)) rfl ?_
      refine s_get (a := e) (j := 3) hh rfl ⟨_, rfl⟩ (ea_t he) rfl rfl (v := sI (hI h e 3)) (hI_ok hh (ea_p he)) ?_
      refine s_icmp (q := .ge) (a := (b : Int)) (b := hI h e 3) rfl ⟨_, rfl⟩ rfl (by unfold sR aMi aMa; omega) (by unfold sR aMi aMa; omega) (fun hc1 => ?_) (fun hc1 => ?_)
      · have hc1 : ((hI h e 3) : Int) ≤ ((b : Int)) := hc1
        omega
      · have hc1 : ¬ (((hI h e 3) : Int) ≤ ((b : Int))) := hc1
        refine sP 2 (g1 := (12, [some (.ref e), some (sI ((kd : Int))), some (sI ((a : Int))), some (sI ((s : Int))), some (sI ((sF (hI h (e + 2)) kd a s b).1)), some (sI (((sF (hI h (e + 2)) kd a s b).2 : Int))), some (sI ((b : Int)))], [sI ((a : Int)), sI ((b : Int))], h)) rfl ?_
        refine s_icmp (q := .eq) (a := (b : Int)) (b := (a : Int)) rfl ⟨_, rfl⟩ rfl (by unfold sR aMi aMa; omega) (by unfold sR aMi aMa; omega) (fun hc2 => ?_) (fun hc2 => ?_)
        · have hc2 : (((b : Int)) : Int) = ((a : Int)) := hc2
          omega
        · have hc2 : ¬ ((((b : Int)) : Int) = ((a : Int))) := hc2
          refine sP 2 (g1 := (15, [some (.ref e), some (sI ((kd : Int))), some (sI ((a : Int))), some (sI ((s : Int))), some (sI ((sF (hI h (e + 2)) kd a s b).1)), some (sI (((sF (hI h (e + 2)) kd a s b).2 : Int))), some (sI ((b : Int)))], [sI ((b : Int)), sI ((s : Int))], h)) rfl ?_
          have ev3 := fIsIn (sc := sc) (d := d + 1) (h := h) (s := s) (a := b) hs hb6
          rw [if_pos hc.2] at ev3
          refine s_call (k := 39) (args := [sI ((s : Int)), sI ((b : Int))]) (st := []) (v := some (sI 1)) (h1 := h) rfl ⟨rfl, rfl⟩ rfl rfl rfl rfl rfl rfl ev3 ?_
          refine s_ifc (q := .eq) (a := 1) rfl ⟨_, rfl⟩ rfl (by unfold sR aMi aMa; omega) (fun hc4 => ?_) (fun hc4 => ?_)
          · have hc4 : (1 : Int) = 0 := hc4
            omega
          · have hc4 : ¬ ((1 : Int) = 0) := hc4
            refine sP 5 (g1 := (22, [some (.ref e), some (sI ((kd : Int))), some (sI ((a : Int))), some (sI ((s : Int))), some (sI ((sF (hI h (e + 2)) kd a s b).1)), some (sI (((sF (hI h (e + 2)) kd a s b).2 : Int))), some (sI ((b : Int)))], [sI ((b : Int)), sI ((a : Int)), .ref e, sI ((sF (hI h (e + 2)) kd a s b).1), sI ((kd : Int))], h)) rfl ?_
            refine s_call (k := 40) (args := [.ref e, sI ((a : Int)), sI ((b : Int))]) (st := [sI ((sF (hI h (e + 2)) kd a s b).1), sI ((kd : Int))]) (v := some (sI (hI h (e + 2) (6 * a + b)))) (h1 := h) rfl ⟨rfl, rfl⟩ rfl rfl rfl rfl (sRcv hh (ea_t he) rfl) rfl (fLookX hh he ha hb6) ?_
            refine sP 1 (g1 := (24, [some (.ref e), some (sI ((kd : Int))), some (sI ((a : Int))), some (sI ((s : Int))), some (sI ((sF (hI h (e + 2)) kd a s b).1)), some (sI (((sF (hI h (e + 2)) kd a s b).2 : Int))), some (sI ((b : Int)))], [sI (((sF (hI h (e + 2)) kd a s b).2 : Int)), sI (hI h (e + 2) (6 * a + b)), sI ((sF (hI h (e + 2)) kd a s b).1), sI ((kd : Int))], h)) rfl ?_
            refine s_ifc (q := .ne) (a := ((sF (hI h (e + 2)) kd a s b).2 : Int)) rfl ⟨_, rfl⟩ rfl (by unfold sR aMi aMa; omega) (fun hc5 => ?_) (fun hc5 => ?_)
            · have hc5 : ((((sF (hI h (e + 2)) kd a s b).2 : Int)) : Int) ≠ 0 := hc5
              refine sP 1 (g1 := (28, [some (.ref e), some (sI ((kd : Int))), some (sI ((a : Int))), some (sI ((s : Int))), some (sI ((sF (hI h (e + 2)) kd a s b).1)), some (sI (((sF (hI h (e + 2)) kd a s b).2 : Int))), some (sI ((b : Int)))], [sI 0, sI (hI h (e + 2) (6 * a + b)), sI ((sF (hI h (e + 2)) kd a s b).1), sI ((kd : Int))], h)) rfl ?_
              have ev6 := fFold (sc := sc) (d := d) (h := h) (kd := kd) (f := (sF (hI h (e + 2)) kd a s b).1) (l := hI h (e + 2) (6 * a + b)) (first := decide ((sF (hI h (e + 2)) kd a s b).2 = 0)) hk (by omega) (by omega) (by omega) (by omega)
              rw [if_neg (show ¬ decide ((sF (hI h (e + 2)) kd a s b).2 = 0) = true from fun q => by have := of_decide_eq_true q; omega)] at ev6
              refine s_call (k := 41) (args := [sI ((kd : Int)), sI ((sF (hI h (e + 2)) kd a s b).1), sI (hI h (e + 2) (6 * a + b)), sI 0]) (st := []) (v := some (sI (pFo kd (sF (hI h (e + 2)) kd a s b).1 (hI h (e + 2) (6 * a + b)) (decide ((sF (hI h (e + 2)) kd a s b).2 = 0))))) (h1 := h) rfl ⟨rfl, rfl⟩ rfl rfl rfl rfl rfl rfl ev6 ?_
              refine sP 1 (g1 := (30, [some (.ref e), some (sI ((kd : Int))), some (sI ((a : Int))), some (sI ((s : Int))), some (sI (pFo kd (sF (hI h (e + 2)) kd a s b).1 (hI h (e + 2) (6 * a + b)) (decide ((sF (hI h (e + 2)) kd a s b).2 = 0)))), some (sI (((sF (hI h (e + 2)) kd a s b).2 : Int))), some (sI ((b : Int)))], [], h)) rfl ?_
              refine s_inc (a := ((sF (hI h (e + 2)) kd a s b).2 : Int)) (n := 1) (k := 5) rfl rfl rfl ?_
              refine s_inc (a := (b : Int)) (n := 1) (k := 6) rfl rfl rfl ?_
              refine sP 1 (g1 := (6, [some (.ref e), some (sI ((kd : Int))), some (sI ((a : Int))), some (sI ((s : Int))), some (sI (pFo kd (sF (hI h (e + 2)) kd a s b).1 (hI h (e + 2) (6 * a + b)) (decide ((sF (hI h (e + 2)) kd a s b).2 = 0)))), some (sI ((((sF (hI h (e + 2)) kd a s b).2 : Int)) + 1)), some (sI (((b : Int)) + 1))], [], h)) rfl ?_
              rw [show ((b : Int) + 1) = ((b + 1 : Nat) : Int) by omega, show (((sF (hI h (e + 2)) kd a s b).2 : Int) + 1) = (((sF (hI h (e + 2)) kd a s b).2 + 1 : Nat) : Int) by omega]
              exact r1
            · have hc5 : ¬ (((((sF (hI h (e + 2)) kd a s b).2 : Int)) : Int) ≠ 0) := hc5
              refine sP 2 (g1 := (28, [some (.ref e), some (sI ((kd : Int))), some (sI ((a : Int))), some (sI ((s : Int))), some (sI ((sF (hI h (e + 2)) kd a s b).1)), some (sI (((sF (hI h (e + 2)) kd a s b).2 : Int))), some (sI ((b : Int)))], [sI 1, sI (hI h (e + 2) (6 * a + b)), sI ((sF (hI h (e + 2)) kd a s b).1), sI ((kd : Int))], h)) rfl ?_
              have ev7 := fFold (sc := sc) (d := d) (h := h) (kd := kd) (f := (sF (hI h (e + 2)) kd a s b).1) (l := hI h (e + 2) (6 * a + b)) (first := decide ((sF (hI h (e + 2)) kd a s b).2 = 0)) hk (by omega) (by omega) (by omega) (by omega)
              rw [if_pos (show decide ((sF (hI h (e + 2)) kd a s b).2 = 0) = true from decide_eq_true (by omega))] at ev7
              refine s_call (k := 41) (args := [sI ((kd : Int)), sI ((sF (hI h (e + 2)) kd a s b).1), sI (hI h (e + 2) (6 * a + b)), sI 1]) (st := []) (v := some (sI (pFo kd (sF (hI h (e + 2)) kd a s b).1 (hI h (e + 2) (6 * a + b)) (decide ((sF (hI h (e + 2)) kd a s b).2 = 0))))) (h1 := h) rfl ⟨rfl, rfl⟩ rfl rfl rfl rfl rfl rfl ev7 ?_
              refine sP 1 (g1 := (30, [some (.ref e), some (sI ((kd : Int))), some (sI ((a : Int))), some (sI ((s : Int))), some (sI (pFo kd (sF (hI h (e + 2)) kd a s b).1 (hI h (e + 2) (6 * a + b)) (decide ((sF (hI h (e + 2)) kd a s b).2 = 0)))), some (sI (((sF (hI h (e + 2)) kd a s b).2 : Int))), some (sI ((b : Int)))], [], h)) rfl ?_
              refine s_inc (a := ((sF (hI h (e + 2)) kd a s b).2 : Int)) (n := 1) (k := 5) rfl rfl rfl ?_
              refine s_inc (a := (b : Int)) (n := 1) (k := 6) rfl rfl rfl ?_
              refine sP 1 (g1 := (6, [some (.ref e), some (sI ((kd : Int))), some (sI ((a : Int))), some (sI ((s : Int))), some (sI (pFo kd (sF (hI h (e + 2)) kd a s b).1 (hI h (e + 2) (6 * a + b)) (decide ((sF (hI h (e + 2)) kd a s b).2 = 0)))), some (sI ((((sF (hI h (e + 2)) kd a s b).2 : Int)) + 1)), some (sI (((b : Int)) + 1))], [], h)) rfl ?_
              rw [show ((b : Int) + 1) = ((b + 1 : Nat) : Int) by omega, show (((sF (hI h (e + 2)) kd a s b).2 : Int) + 1) = (((sF (hI h (e + 2)) kd a s b).2 + 1 : Nat) : Int) by omega]
              exact r1
    · have e1 : sF (hI h (e + 2)) kd a s (b + 1) = (sF (hI h (e + 2)) kd a s b) := by
        show (if _ then _ else _) = _
        rw [if_neg hc]
      rw [e1] at r1
      by_cases hba : b = a
      · subst hba
        refine sP 2 (g1 := (8, [some (.ref e), some (sI ((kd : Int))), some (sI ((b : Int))), some (sI ((s : Int))), some (sI ((sF (hI h (e + 2)) kd b s b).1)), some (sI (((sF (hI h (e + 2)) kd b s b).2 : Int))), some (sI ((b : Int)))], [.ref e, sI ((b : Int))], h)) rfl ?_
        refine s_get (a := e) (j := 3) hh rfl ⟨_, rfl⟩ (ea_t he) rfl rfl (v := sI (hI h e 3)) (hI_ok hh (ea_p he)) ?_
        refine s_icmp (q := .ge) (a := (b : Int)) (b := hI h e 3) rfl ⟨_, rfl⟩ rfl (by unfold sR aMi aMa; omega) (by unfold sR aMi aMa; omega) (fun hc1 => ?_) (fun hc1 => ?_)
        · have hc1 : ((hI h e 3) : Int) ≤ ((b : Int)) := hc1
          omega
        · have hc1 : ¬ (((hI h e 3) : Int) ≤ ((b : Int))) := hc1
          refine sP 2 (g1 := (12, [some (.ref e), some (sI ((kd : Int))), some (sI ((b : Int))), some (sI ((s : Int))), some (sI ((sF (hI h (e + 2)) kd b s b).1)), some (sI (((sF (hI h (e + 2)) kd b s b).2 : Int))), some (sI ((b : Int)))], [sI ((b : Int)), sI ((b : Int))], h)) rfl ?_
          refine s_icmp (q := .eq) (a := (b : Int)) (b := (b : Int)) rfl ⟨_, rfl⟩ rfl (by unfold sR aMi aMa; omega) (by unfold sR aMi aMa; omega) (fun hc2 => ?_) (fun hc2 => ?_)
          · have hc2 : (((b : Int)) : Int) = ((b : Int)) := hc2
            refine s_inc (a := (b : Int)) (n := 1) (k := 6) rfl rfl rfl ?_
            refine sP 1 (g1 := (6, [some (.ref e), some (sI ((kd : Int))), some (sI ((b : Int))), some (sI ((s : Int))), some (sI ((sF (hI h (e + 2)) kd b s b).1)), some (sI (((sF (hI h (e + 2)) kd b s b).2 : Int))), some (sI (((b : Int)) + 1))], [], h)) rfl ?_
            rw [show ((b : Int) + 1) = ((b + 1 : Nat) : Int) by omega]
            exact r1
          · have hc2 : ¬ ((((b : Int)) : Int) = ((b : Int))) := hc2
            omega
      · have hq : ¬ bt s b = true := fun q => hc ⟨hba, q⟩
        refine sP 2 (g1 := (8, [some (.ref e), some (sI ((kd : Int))), some (sI ((a : Int))), some (sI ((s : Int))), some (sI ((sF (hI h (e + 2)) kd a s b).1)), some (sI (((sF (hI h (e + 2)) kd a s b).2 : Int))), some (sI ((b : Int)))], [.ref e, sI ((b : Int))], h)) rfl ?_
        refine s_get (a := e) (j := 3) hh rfl ⟨_, rfl⟩ (ea_t he) rfl rfl (v := sI (hI h e 3)) (hI_ok hh (ea_p he)) ?_
        refine s_icmp (q := .ge) (a := (b : Int)) (b := hI h e 3) rfl ⟨_, rfl⟩ rfl (by unfold sR aMi aMa; omega) (by unfold sR aMi aMa; omega) (fun hc1 => ?_) (fun hc1 => ?_)
        · have hc1 : ((hI h e 3) : Int) ≤ ((b : Int)) := hc1
          omega
        · have hc1 : ¬ (((hI h e 3) : Int) ≤ ((b : Int))) := hc1
          refine sP 2 (g1 := (12, [some (.ref e), some (sI ((kd : Int))), some (sI ((a : Int))), some (sI ((s : Int))), some (sI ((sF (hI h (e + 2)) kd a s b).1)), some (sI (((sF (hI h (e + 2)) kd a s b).2 : Int))), some (sI ((b : Int)))], [sI ((a : Int)), sI ((b : Int))], h)) rfl ?_
          refine s_icmp (q := .eq) (a := (b : Int)) (b := (a : Int)) rfl ⟨_, rfl⟩ rfl (by unfold sR aMi aMa; omega) (by unfold sR aMi aMa; omega) (fun hc2 => ?_) (fun hc2 => ?_)
          · have hc2 : (((b : Int)) : Int) = ((a : Int)) := hc2
            omega
          · have hc2 : ¬ ((((b : Int)) : Int) = ((a : Int))) := hc2
            refine sP 2 (g1 := (15, [some (.ref e), some (sI ((kd : Int))), some (sI ((a : Int))), some (sI ((s : Int))), some (sI ((sF (hI h (e + 2)) kd a s b).1)), some (sI (((sF (hI h (e + 2)) kd a s b).2 : Int))), some (sI ((b : Int)))], [sI ((b : Int)), sI ((s : Int))], h)) rfl ?_
            have ev3 := fIsIn (sc := sc) (d := d + 1) (h := h) (s := s) (a := b) hs hb6
            rw [if_neg hq] at ev3
            refine s_call (k := 39) (args := [sI ((s : Int)), sI ((b : Int))]) (st := []) (v := some (sI 0)) (h1 := h) rfl ⟨rfl, rfl⟩ rfl rfl rfl rfl rfl rfl ev3 ?_
            refine s_ifc (q := .eq) (a := 0) rfl ⟨_, rfl⟩ rfl (by unfold sR aMi aMa; omega) (fun hc4 => ?_) (fun hc4 => ?_)
            · have hc4 : (0 : Int) = 0 := hc4
              refine s_inc (a := (b : Int)) (n := 1) (k := 6) rfl rfl rfl ?_
              refine sP 1 (g1 := (6, [some (.ref e), some (sI ((kd : Int))), some (sI ((a : Int))), some (sI ((s : Int))), some (sI ((sF (hI h (e + 2)) kd a s b).1)), some (sI (((sF (hI h (e + 2)) kd a s b).2 : Int))), some (sI (((b : Int)) + 1))], [], h)) rfl ?_
              rw [show ((b : Int) + 1) = ((b + 1 : Nat) : Int) by omega]
              exact r1
            · have hc4 : ¬ ((0 : Int) = 0) := hc4
              omega
theorem fSeemAs {e n kd a s : Nat} (hh : aHp h) (he : e ∈ eAd) (hn : hI h e 3 = n) (hk : kd < 6) (ha : a < 6) (hs : s < 64) : nEv sc (d + 3) 38 [.ref e, sI (kd : Int), sI (a : Int), sI (s : Int)] h (some (sI (pSeem (hI h (e + 2)) n kd a s)), h) := by
  have r1 := fSeemL (sc := sc) (d := d) hh he hn hk ha hs n 0 (by omega)
  refine nEv_of (t := mMe38) rfl ?_
  show nRn sc (d + 2) (mMT mMe38) (mMC mMe38) (0, [some (.ref e), some (sI (kd : Int)), some (sI (a : Int)), some (sI (s : Int)), none, none, none], [], h) _
  refine sP 6 (g1 := (6, [some (.ref e), some (sI (kd : Int)), some (sI (a : Int)), some (sI (s : Int)), some (sI 0), some (sI 0), some (sI 0)], [], h)) rfl ?_
  exact r1
end SEEM

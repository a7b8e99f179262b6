/-! meetings, in the reference -/
/-- whom one has not met, of a set -/
noncomputable def uq (G : Nat → Int) (a s : Nat) : Nat → List Nat
  | 0 => []
  | b + 1 => if b ≠ a ∧ bt s b = true ∧ G (6 * a + b) = 0 then uq G a s b ++ [b] else uq G a s b
theorem uq_at (G : Nat → Int) (a s : Nat) : ∀ n k, k < (uq G a s n).length → (uq G a s n).getD k 0 < n ∧ (uq G a s n).getD k 0 ≠ a ∧ G (6 * a + (uq G a s n).getD k 0) = 0
  | 0, k, h => absurd h (by simp [uq])
  | b + 1, k, h => by
    unfold uq at h ⊢
    split
    · rename_i hc
      rw [if_pos hc, List.length_append] at h
      rw [List.getD_eq_getElem?_getD]
      by_cases e : k < (uq G a s b).length
      · rw [List.getElem?_append_left e, ← List.getD_eq_getElem?_getD]
        have := uq_at G a s b k e
        exact ⟨by omega, this.2⟩
      · rw [List.getElem?_append_right (by omega)]
        have e1 : k - (uq G a s b).length = 0 := by
          have : [b].length = 1 := rfl
          omega
        rw [e1]
        exact ⟨by show b < b + 1; omega, hc.1, hc.2.2⟩
    · rename_i hc
      rw [if_neg hc] at h
      have := uq_at G a s b k h
      exact ⟨by omega, this.2⟩
theorem uq_len (G : Nat → Int) (a s : Nat) : ∀ n, (uq G a s n).length ≤ n ∧ (a < n → (uq G a s n).length + 1 ≤ n)
  | 0 => ⟨Nat.le_refl _, fun h => absurd h (by omega)⟩
  | b + 1 => by
    obtain ⟨h1, h2⟩ := uq_len G a s b
    unfold uq
    split
    · rename_i hc
      rw [List.length_append]
      have : [b].length = 1 := rfl
      refine ⟨by omega, fun h => ?_⟩
      have := h2 (by omega)
      omega
    · refine ⟨by omega, fun h => by omega⟩
/-- how many figures of a code are above 0; looks by a code -/
noncomputable def mD : Nat → Nat → Nat
  | 0, _ => 0
  | c + 1, x => (if 0 < x % 10 then 1 else 0) + mD c (x / 10)
theorem mD_le : ∀ c x, mD c x ≤ c
  | 0, _ => Nat.le_refl _
  | c + 1, x => by
    have := mD_le c (x / 10)
    unfold mD
    split <;> omega
noncomputable def gD (l : List Nat) (a : Nat) : Nat → Nat → Nat → (Nat → Int) → Nat → Int
  | 0, _, _, G => G
  | c + 1, k, x, G => gD l a c (k + 1) (x / 10) (gUp G (6 * a + l.getD k 0) (x % 10))
theorem gD_off {l : List Nat} {a : Nat} : ∀ (c k x : Nat) (G : Nat → Int) (j : Nat), (∀ i, k ≤ i → i < k + c → j ≠ 6 * a + l.getD i 0) → gD l a c k x G j = G j
  | 0, _, _, _, _, _ => rfl
  | c + 1, k, x, G, j, h => by
    unfold gD
    rw [gD_off c (k + 1) (x / 10) _ j (fun i h1 h2 => h i (by omega) (by omega))]
    unfold gUp
    rw [if_neg (h k (by omega) (by omega))]
theorem gD_cg {l : List Nat} {a : Nat} : ∀ (c k x : Nat) (G G1 : Nat → Int) (j : Nat), (G j = G1 j ∨ ∃ i, k ≤ i ∧ i < k + c ∧ j = 6 * a + l.getD i 0) → gD l a c k x G j = gD l a c k x G1 j
  | 0, k, _, G, G1, j, h => by
    rcases h with h | ⟨i, h1, h2, -⟩
    · exact h
    · omega
  | c + 1, k, x, G, G1, j, h => by
    unfold gD
    refine gD_cg c (k + 1) (x / 10) _ _ j ?_
    by_cases e : j = 6 * a + l.getD k 0
    · left
      unfold gUp
      rw [if_pos e, if_pos e]
    · rcases h with h | ⟨i, h1, h2, h3⟩
      · left
        unfold gUp
        rw [if_neg e, if_neg e, h]
      · right
        refine ⟨i, ?_, by omega, h3⟩
        by_cases e2 : i = k
        · rw [e2] at h3
          exact absurd h3 e
        · omega
/-- the fewest meetings by codes below one -/
noncomputable def fwC (f : Nat → Bool) (m : Nat) : Nat → Int
  | 0 => 1000000
  | c + 1 => if (mD m c : Int) < fwC f m c ∧ f c = true then (mD m c : Int) else fwC f m c
theorem fwC_rg (f : Nat → Bool) (m : Nat) (hm : m ≤ 6) : ∀ c, 0 ≤ fwC f m c ∧ fwC f m c ≤ 1000000
  | 0 => ⟨by show (0 : Int) ≤ 1000000; decide, Int.le_refl _⟩
  | c + 1 => by
    have := fwC_rg f m hm c
    have := mD_le m c
    unfold fwC
    split <;> omega
theorem mx_c {k : Nat} (hk : k < 6) : zCell 65 k 0 5 = true := (show ∀ k, k < 6 → zCell 65 k 0 5 = true by decide +kernel) k hk
theorem mx_i {k : Nat} (hk : k < 6) : zIn 65 k 0 5 = true := (show ∀ k, k < 6 → zIn 65 k 0 5 = true by decide +kernel) k hk
theorem p10_le {m : Nat} (hm : m ≤ 5) : 1 ≤ 10 ^ m ∧ 10 ^ m ≤ 100000 := (show ∀ m, m < 6 → 1 ≤ 10 ^ m ∧ 10 ^ m ≤ 100000 by decide) m (by omega)
section MEETM
variable {sc : List Int32} {d : Nat} {h : mH}
/-- whom one has not met is written down -/
theorem fMmA {n a s : Nat} {v : Int} (ha : a < n) (hs : s < 64) : ∀ (c b : Nat) (h : mH), b + c = n → aHp h → hI h 58 0 = (n : Int) → (∀ k, k < (uq (fun j => hI h 58 (7 + j)) a s b).length → hI h 65 k = (((uq (fun j => hI h 58 (7 + j)) a s b).getD k 0 : Nat) : Int)) → ∃ g, aHp g ∧ (∀ p m, p ≠ 65 → aSlot g p m = aSlot h p m) ∧ (∀ k, k < (uq (fun j => hI h 58 (7 + j)) a s n).length → hI g 65 k = (((uq (fun j => hI h 58 (7 + j)) a s n).getD k 0 : Nat) : Int)) ∧ ∀ r, nRn sc (d + 3) (mMT mMe194) (mMC mMe194) (52, [some (.ref 53), some (sI (a : Int)), some (sI (s : Int)), some (sI v), some (sI (((uq (fun j => hI h 58 (7 + j)) a s n).length : Nat) : Int)), some (sI ((10 ^ (uq (fun j => hI h 58 (7 + j)) a s n).length : Nat) : Int)), some (sI (n : Int)), none, none, none, none], [], g) r → nRn sc (d + 3) (mMT mMe194) (mMC mMe194) (22, [some (.ref 53), some (sI (a : Int)), some (sI (s : Int)), some (sI v), some (sI (((uq (fun j => hI h 58 (7 + j)) a s b).length : Nat) : Int)), some (sI ((10 ^ (uq (fun j => hI h 58 (7 + j)) a s b).length : Nat) : Int)), some (sI (b : Int)), none, none, none, none], [], h) r := by
  intro c
  induction c with
  | zero =>
    intro b h hb hh hn hu
    have gp := hI_rg hh nw_p
    have hbn : b = n := by omega
    subst hbn
    refine ⟨h, hh, fun _ _ _ => rfl, hu, fun r r1 => ?_⟩
    have ul := (uq_len (fun j => hI h 58 (7 + j)) a s b).2 ha
    generalize hq : (uq (fun j => hI h 58 (7 + j)) a s b).length = q at *
    have pq := p10_le (show q ≤ 5 by omega)
    generalize 10 ^ q = cq at *
    refine sP 2 (g1 := (24, [some (.ref 53), some (sI ((a : Int))), some (sI ((s : Int))), some (sI v), some (sI ((q : Int))), some (sI ((cq : Int))), some (sI ((b : Int))), none, none, none, none], [.ref 53, sI ((b : Int))], h)) rfl ?_
    refine s_get (a := 53) (j := 4) hh rfl ⟨_, rfl⟩ rfl rfl rfl (v := .ref 58) (hR_ok hh (by decide +kernel)) ?_
    refine sP 1 (g1 := (26, [some (.ref 53), some (sI ((a : Int))), some (sI ((s : Int))), some (sI v), some (sI ((q : Int))), some (sI ((cq : Int))), some (sI ((b : Int))), none, none, none, none], [sI 0, .ref 58, sI ((b : Int))], h)) rfl ?_
    refine s_iald (a := 58) (n := 201) (j := 0) hh rfl rfl rfl (by omega) (by omega) (by decide) (v := sI (hI h 58 0)) (hI_ok hh nw_p) ?_
    refine s_icmp (q := .ge) (a := (b : Int)) (b := hI h 58 0) rfl ⟨_, rfl⟩ rfl (by unfold sR aMi aMa; omega) (by unfold sR aMi aMa; omega) (fun hc1 => ?_) (fun hc1 => ?_)
    · have hc1 : ((hI h 58 0) : Int) ≤ ((b : Int)) := hc1
      exact r1
    · have hc1 : ¬ (((hI h 58 0) : Int) ≤ ((b : Int))) := hc1
      omega
  | succ c ih =>
    intro b h hb hh hn hu
    have gp := hI_rg hh nw_p
    have hb6 : b < 6 := by omega
    have ha6 : a < 6 := by omega
    have gl := hI_rg hh (nw_lk (show 6 * a + b < 36 by omega))
    have ul := uq_len (fun j => hI h 58 (7 + j)) a s (b + 1)
    have ul0 := uq_len (fun j => hI h 58 (7 + j)) a s b
    have e1 : uq (fun j => hI h 58 (7 + j)) a s (b + 1) = if b ≠ a ∧ bt s b = true ∧ hI h 58 (7 + (6 * a + b)) = 0 then uq (fun j => hI h 58 (7 + j)) a s b ++ [b] else uq (fun j => hI h 58 (7 + j)) a s b := rfl
    have va := fHas (sc := sc) (d := d + 2) (h := h) (s := s) (a := b) hs hb6
    by_cases hc : b ≠ a ∧ bt s b = true ∧ hI h 58 (7 + (6 * a + b)) = 0
    · rw [if_pos hc] at e1
      rw [if_pos hc.2.1] at va
      have ln : (uq (fun j => hI h 58 (7 + j)) a s (b + 1)).length = (uq (fun j => hI h 58 (7 + j)) a s b).length + 1 := by rw [e1, List.length_append]; rfl
      have l5 : (uq (fun j => hI h 58 (7 + j)) a s b).length < 6 := by omega
      obtain ⟨g1, eg1⟩ : ∃ gz, gz = hset h 65 ((uq (fun j => hI h 58 (7 + j)) a s b).length) (sI (b : Int)) := ⟨_, rfl⟩
      have sg1 : ∀ xa xm, aSlot g1 xa xm = if xa = 65 ∧ xm = (uq (fun j => hI h 58 (7 + j)) a s b).length then some (sI (b : Int)) else aSlot h xa xm := fun xa xm => by rw [eg1]; exact hset_slot hh (show sTg 65 = some (50, 6) from rfl) (by omega) xa xm
      have hg1 : aHp g1 := by rw [eg1]; exact hset_ii hh (mx_i l5) (by omega) (by omega) (by unfold sR aMi aMa; omega)
      have eG : (fun j => hI g1 58 (7 + j)) = (fun j => hI h 58 (7 + j)) := funext (fun j => hI_cg (by rw [sg1, if_neg (by omega)]))
      have hu1 : ∀ k, k < (uq (fun j => hI g1 58 (7 + j)) a s (b + 1)).length → hI g1 65 k = (((uq (fun j => hI g1 58 (7 + j)) a s (b + 1)).getD k 0 : Nat) : Int) := fun k hk => by
        rw [eG] at hk ⊢
        rw [e1] at hk ⊢
        rw [List.length_append] at hk
        have o1 : [b].length = 1 := rfl
        rw [List.getD_eq_getElem?_getD]
        by_cases e : k < (uq (fun j => hI h 58 (7 + j)) a s b).length
        · rw [List.getElem?_append_left e, ← List.getD_eq_getElem?_getD, ← hu k e]
          exact hI_cg (by rw [sg1, if_neg (by omega)])
        · have ek : k = (uq (fun j => hI h 58 (7 + j)) a s b).length := by omega
          rw [List.getElem?_append_right (by omega), ek, Nat.sub_self]
          show hI g1 65 (uq (fun j => hI h 58 (7 + j)) a s b).length = (b : Int)
          exact hI_si (by rw [sg1, if_pos (by omega)]) (by unfold sR aMi aMa; omega)
      obtain ⟨g, i1, i2, i3, i4⟩ := ih (b + 1) g1 (by omega) hg1 ((hI_cg (by rw [sg1, if_neg (by omega)])).trans hn) hu1
      rw [eG] at i3 i4
      refine ⟨g, i1, fun p m w => by rw [i2 p m w, sg1, if_neg (by omega)], i3, fun r r1 => ?_⟩
      have r0 := i4 r r1
      rw [ln] at r0
      have pq := p10_le (show (uq (fun j => hI h 58 (7 + j)) a s b).length ≤ 5 by have := ul.2; omega)
      rw [Nat.pow_succ] at r0
      generalize hq : (uq (fun j => hI h 58 (7 + j)) a s b).length = q at *
      generalize 10 ^ q = cq at *
      refine sP 2 (g1 := (24, [some (.ref 53), some (sI ((a : Int))), some (sI ((s : Int))), some (sI v), some (sI ((q : Int))), some (sI ((cq : Int))), some (sI ((b : Int))), none, none, none, none], [.ref 53, sI ((b : Int))], h)) rfl ?_
      refine s_get (a := 53) (j := 4) hh rfl ⟨_, rfl⟩ rfl rfl rfl (v := .ref 58) (hR_ok hh (by decide +kernel)) ?_
      refine sP 1 (g1 := (26, [some (.ref 53), some (sI ((a : Int))), some (sI ((s : Int))), some (sI v), some (sI ((q : Int))), some (sI ((cq : Int))), some (sI ((b : Int))), none, none, none, none], [sI 0, .ref 58, sI ((b : Int))], h)) rfl ?_
      refine s_iald (a := 58) (n := 201) (j := 0) hh rfl rfl rfl (by omega) (by omega) (by decide) (v := sI (hI h 58 0)) (hI_ok hh nw_p) ?_
      refine s_icmp (q := .ge) (a := (b : Int)) (b := hI h 58 0) rfl ⟨_, rfl⟩ rfl (by unfold sR aMi aMa; omega) (by unfold sR aMi aMa; omega) (fun hc1 => ?_) (fun hc1 => ?_)
      · have hc1 : ((hI h 58 0) : Int) ≤ ((b : Int)) := hc1
        omega
      · have hc1 : ¬ (((hI h 58 0) : Int) ≤ ((b : Int))) := hc1
        refine sP 2 (g1 := (30, [some (.ref 53), some (sI ((a : Int))), some (sI ((s : Int))), some (sI v), some (sI ((q : Int))), some (sI ((cq : Int))), some (sI ((b : Int))), none, none, none, none], [sI ((a : Int)), sI ((b : Int))], h)) rfl ?_
        refine s_icmp (q := .eq) (a := (b : Int)) (b := (a : Int)) rfl ⟨_, rfl⟩ rfl (by unfold sR aMi aMa; omega) (by unfold sR aMi aMa; omega) (fun hc2 => ?_) (fun hc2 => ?_)
        · have hc2 : (((b : Int)) : Int) = ((a : Int)) := hc2
          omega
        · have hc2 : ¬ ((((b : Int)) : Int) = ((a : Int))) := hc2
          refine sP 2 (g1 := (33, [some (.ref 53), some (sI ((a : Int))), some (sI ((s : Int))), some (sI v), some (sI ((q : Int))), some (sI ((cq : Int))), some (sI ((b : Int))), none, none, none, none], [sI ((b : Int)), sI ((s : Int))], h)) rfl ?_
          refine s_call (k := 149) (args := [sI ((s : Int)), sI ((b : Int))]) (st := []) (v := some (sI 1)) (h1 := h) rfl ⟨rfl, rfl⟩ rfl rfl rfl rfl rfl rfl va ?_
          refine s_ifc (q := .eq) (a := 1) rfl ⟨_, rfl⟩ rfl (by unfold sR aMi aMa; omega) (fun hc3 => ?_) (fun hc3 => ?_)
          · have hc3 : (1 : Int) = 0 := hc3
            omega
          · have hc3 : ¬ ((1 : Int) = 0) := hc3
            refine sP 3 (g1 := (38, [some (.ref 53), some (sI ((a : Int))), some (sI ((s : Int))), some (sI v), some (sI ((q : Int))), some (sI ((cq : Int))), some (sI ((b : Int))), none, none, none, none], [sI ((b : Int)), sI ((a : Int)), .ref 53], h)) rfl ?_
            refine s_call (k := 152) (args := [.ref 53, sI ((a : Int)), sI ((b : Int))]) (st := []) (v := some (sI (hI h 58 (7 + (6 * a + b))))) (h1 := h) rfl ⟨rfl, rfl⟩ rfl rfl rfl rfl (sRcv hh (a := 53) rfl rfl) rfl (fLookM hh ha6 hb6) ?_
            refine s_ifc (q := .ne) (a := hI h 58 (7 + (6 * a + b))) rfl ⟨_, rfl⟩ rfl (by unfold sR aMi aMa; omega) (fun hc4 => ?_) (fun hc4 => ?_)
            · have hc4 : ((hI h 58 (7 + (6 * a + b))) : Int) ≠ 0 := hc4
              omega
            · have hc4 : ¬ (((hI h 58 (7 + (6 * a + b))) : Int) ≠ 0) := hc4
              refine sP 1 (g1 := (41, [some (.ref 53), some (sI ((a : Int))), some (sI ((s : Int))), some (sI v), some (sI ((q : Int))), some (sI ((cq : Int))), some (sI ((b : Int))), none, none, none, none], [.ref 53], h)) rfl ?_
              refine s_get (a := 53) (j := 17) hh rfl ⟨_, rfl⟩ rfl rfl rfl (v := .ref 65) (hR_ok hh (by decide +kernel)) ?_
              refine sP 2 (g1 := (44, [some (.ref 53), some (sI ((a : Int))), some (sI ((s : Int))), some (sI v), some (sI ((q : Int))), some (sI ((cq : Int))), some (sI ((b : Int))), none, none, none, none], [sI ((b : Int)), sI ((q : Int)), .ref 65], h)) rfl ?_
              refine s_iast (a := 65) (n := 6) (j := (q : Int)) hh rfl rfl (show sTg 65 = some (50, 6) from rfl) (by omega) (by omega) (by decide) ?_
              rw [show ((q : Int) : Int).toNat = q by omega]
              rw [← eg1]
              refine s_inc (a := (q : Int)) (n := 1) (k := 4) rfl rfl rfl ?_
              refine sP 2 (g1 := (48, [some (.ref 53), some (sI ((a : Int))), some (sI ((s : Int))), some (sI v), some (sI (((q : Int)) + 1)), some (sI ((cq : Int))), some (sI ((b : Int))), none, none, none, none], [sI 10, sI ((cq : Int))], g1)) rfl ?_
              refine s_mul (a := (cq : Int)) (b := 10) rfl rfl ?_
              refine sP 1 (g1 := (50, [some (.ref 53), some (sI ((a : Int))), some (sI ((s : Int))), some (sI v), some (sI (((q : Int)) + 1)), some (sI (((cq : Int)) * 10)), some (sI ((b : Int))), none, none, none, none], [], g1)) rfl ?_
              refine s_inc (a := (b : Int)) (n := 1) (k := 6) rfl rfl rfl ?_
              refine sP 1 (g1 := (22, [some (.ref 53), some (sI ((a : Int))), some (sI ((s : Int))), some (sI v), some (sI (((q : Int)) + 1)), some (sI (((cq : Int)) * 10)), some (sI (((b : Int)) + 1)), none, none, none, none], [], g1)) rfl ?_
              rw [show ((b : Int) + 1) = ((b + 1 : Nat) : Int) by omega, show ((q : Int) + 1) = ((q + 1 : Nat) : Int) by omega, show ((cq : Int) * 10) = ((cq * 10 : Nat) : Int) by omega]
              exact r0
    · rw [if_neg hc] at e1
      have hu1 : ∀ k, k < (uq (fun j => hI h 58 (7 + j)) a s (b + 1)).length → hI h 65 k = (((uq (fun j => hI h 58 (7 + j)) a s (b + 1)).getD k 0 : Nat) : Int) := by rw [e1]; exact hu
      obtain ⟨g, i1, i2, i3, i4⟩ := ih (b + 1) h (by omega) hh hn hu1
      refine ⟨g, i1, i2, i3, fun r r1 => ?_⟩
      have r0 := i4 r r1
      rw [e1] at r0
      have pq := p10_le (show (uq (fun j => hI h 58 (7 + j)) a s b).length ≤ 5 by rw [e1] at ul; have := ul.2; omega)
      generalize hq : (uq (fun j => hI h 58 (7 + j)) a s b).length = q at *
      generalize 10 ^ q = cq at *
      by_cases h1 : b = a
      · skip
        refine sP 2 (g1 := (24, [some (.ref 53), some (sI ((a : Int))), some (sI ((s : Int))), some (sI v), some (sI ((q : Int))), some (sI ((cq : Int))), some (sI ((b : Int))), none, none, none, none], [.ref 53, sI ((b : Int))], h)) rfl ?_
        refine s_get (a := 53) (j := 4) hh rfl ⟨_, rfl⟩ rfl rfl rfl (v := .ref 58) (hR_ok hh (by decide +kernel)) ?_
        refine sP 1 (g1 := (26, [some (.ref 53), some (sI ((a : Int))), some (sI ((s : Int))), some (sI v), some (sI ((q : Int))), some (sI ((cq : Int))), some (sI ((b : Int))), none, none, none, none], [sI 0, .ref 58, sI ((b : Int))], h)) rfl ?_
        refine s_iald (a := 58) (n := 201) (j := 0) hh rfl rfl rfl (by omega) (by omega) (by decide) (v := sI (hI h 58 0)) (hI_ok hh nw_p) ?_
        refine s_icmp (q := .ge) (a := (b : Int)) (b := hI h 58 0) rfl ⟨_, rfl⟩ rfl (by unfold sR aMi aMa; omega) (by unfold sR aMi aMa; omega) (fun hc1 => ?_) (fun hc1 => ?_)
        · have hc1 : ((hI h 58 0) : Int) ≤ ((b : Int)) := hc1
          omega
        · have hc1 : ¬ (((hI h 58 0) : Int) ≤ ((b : Int))) := hc1
          refine sP 2 (g1 := (30, [some (.ref 53), some (sI ((a : Int))), some (sI ((s : Int))), some (sI v), some (sI ((q : Int))), some (sI ((cq : Int))), some (sI ((b : Int))), none, none, none, none], [sI ((a : Int)), sI ((b : Int))], h)) rfl ?_
          refine s_icmp (q := .eq) (a := (b : Int)) (b := (a : Int)) rfl ⟨_, rfl⟩ rfl (by unfold sR aMi aMa; omega) (by unfold sR aMi aMa; omega) (fun hc2 => ?_) (fun hc2 => ?_)
          · have hc2 : (((b : Int)) : Int) = ((a : Int)) := hc2
            refine s_inc (a := (b : Int)) (n := 1) (k := 6) rfl rfl rfl ?_
            refine sP 1 (g1 := (22, [some (.ref 53), some (sI ((a : Int))), some (sI ((s : Int))), some (sI v), some (sI ((q : Int))), some (sI ((cq : Int))), some (sI (((b : Int)) + 1)), none, none, none, none], [], h)) rfl ?_
            rw [show ((b : Int) + 1) = ((b + 1 : Nat) : Int) by omega]
            exact r0
          · have hc2 : ¬ ((((b : Int)) : Int) = ((a : Int))) := hc2
            omega
      · by_cases h2 : bt s b = true
        · rw [if_pos h2] at va
          have h3 : hI h 58 (7 + (6 * a + b)) ≠ 0 := fun w => hc ⟨h1, h2, w⟩
          refine sP 2 (g1 := (24, [some (.ref 53), some (sI ((a : Int))), some (sI ((s : Int))), some (sI v), some (sI ((q : Int))), some (sI ((cq : Int))), some (sI ((b : Int))), none, none, none, none], [.ref 53, sI ((b : Int))], h)) rfl ?_
          refine s_get (a := 53) (j := 4) hh rfl ⟨_, rfl⟩ rfl rfl rfl (v := .ref 58) (hR_ok hh (by decide +kernel)) ?_
          refine sP 1 (g1 := (26, [some (.ref 53), some (sI ((a : Int))), some (sI ((s : Int))), some (sI v), some (sI ((q : Int))), some (sI ((cq : Int))), some (sI ((b : Int))), none, none, none, none], [sI 0, .ref 58, sI ((b : Int))], h)) rfl ?_
          refine s_iald (a := 58) (n := 201) (j := 0) hh rfl rfl rfl (by omega) (by omega) (by decide) (v := sI (hI h 58 0)) (hI_ok hh nw_p) ?_
          refine s_icmp (q := .ge) (a := (b : Int)) (b := hI h 58 0) rfl ⟨_, rfl⟩ rfl (by unfold sR aMi aMa; omega) (by unfold sR aMi aMa; omega) (fun hc1 => ?_) (fun hc1 => ?_)
          · have hc1 : ((hI h 58 0) : Int) ≤ ((b : Int)) := hc1
            omega
          · have hc1 : ¬ (((hI h 58 0) : Int) ≤ ((b : Int))) := hc1
            refine sP 2 (g1 := (30, [some (.ref 53), some (sI ((a : Int))), some (sI ((s : Int))), some (sI v), some (sI ((q : Int))), some (sI ((cq : Int))), some (sI ((b : Int))), none, none, none, none], [sI ((a : Int)), sI ((b : Int))], h)) rfl ?_
            refine s_icmp (q := .eq) (a := (b : Int)) (b := (a : Int)) rfl ⟨_, rfl⟩ rfl (by unfold sR aMi aMa; omega) (by unfold sR aMi aMa; omega) (fun hc2 => ?_) (fun hc2 => ?_)
            · have hc2 : (((b : Int)) : Int) = ((a : Int)) := hc2
              omega
            · have hc2 : ¬ ((((b : Int)) : Int) = ((a : Int))) := hc2
              refine sP 2 (g1 := (33, [some (.ref 53), some (sI ((a : Int))), some (sI ((s : Int))), some (sI v), some (sI ((q : Int))), some (sI ((cq : Int))), some (sI ((b : Int))), none, none, none, none], [sI ((b : Int)), sI ((s : Int))], h)) rfl ?_
              refine s_call (k := 149) (args := [sI ((s : Int)), sI ((b : Int))]) (st := []) (v := some (sI 1)) (h1 := h) rfl ⟨rfl, rfl⟩ rfl rfl rfl rfl rfl rfl va ?_
              refine s_ifc (q := .eq) (a := 1) rfl ⟨_, rfl⟩ rfl (by unfold sR aMi aMa; omega) (fun hc3 => ?_) (fun hc3 => ?_)
              · have hc3 : (1 : Int) = 0 := hc3
                omega
              · have hc3 : ¬ ((1 : Int) = 0) := hc3
                refine sP 3 (g1 := (38, [some (.ref 53), some (sI ((a : Int))), some (sI ((s : Int))), some (sI v), some (sI ((q : Int))), some (sI ((cq : Int))), some (sI ((b : Int))), none, none, none, none], [sI ((b : Int)), sI ((a : Int)), .ref 53], h)) rfl ?_
                refine s_call (k := 152) (args := [.ref 53, sI ((a : Int)), sI ((b : Int))]) (st := []) (v := some (sI (hI h 58 (7 + (6 * a + b))))) (h1 := h) rfl ⟨rfl, rfl⟩ rfl rfl rfl rfl (sRcv hh (a := 53) rfl rfl) rfl (fLookM hh ha6 hb6) ?_
                refine s_ifc (q := .ne) (a := hI h 58 (7 + (6 * a + b))) rfl ⟨_, rfl⟩ rfl (by unfold sR aMi aMa; omega) (fun hc4 => ?_) (fun hc4 => ?_)
                · have hc4 : ((hI h 58 (7 + (6 * a + b))) : Int) ≠ 0 := hc4
                  refine s_inc (a := (b : Int)) (n := 1) (k := 6) rfl rfl rfl ?_
                  refine sP 1 (g1 := (22, [some (.ref 53), some (sI ((a : Int))), some (sI ((s : Int))), some (sI v), some (sI ((q : Int))), some (sI ((cq : Int))), some (sI (((b : Int)) + 1)), none, none, none, none], [], h)) rfl ?_
                  rw [show ((b : Int) + 1) = ((b + 1 : Nat) : Int) by omega]
                  exact r0
                · have hc4 : ¬ (((hI h 58 (7 + (6 * a + b))) : Int) ≠ 0) := hc4
                  omega
        · rw [if_neg h2] at va
          refine sP 2 (g1 := (24, [some (.ref 53), some (sI ((a : Int))), some (sI ((s : Int))), some (sI v), some (sI ((q : Int))), some (sI ((cq : Int))), some (sI ((b : Int))), none, none, none, none], [.ref 53, sI ((b : Int))], h)) rfl ?_
          refine s_get (a := 53) (j := 4) hh rfl ⟨_, rfl⟩ rfl rfl rfl (v := .ref 58) (hR_ok hh (by decide +kernel)) ?_
          refine sP 1 (g1 := (26, [some (.ref 53), some (sI ((a : Int))), some (sI ((s : Int))), some (sI v), some (sI ((q : Int))), some (sI ((cq : Int))), some (sI ((b : Int))), none, none, none, none], [sI 0, .ref 58, sI ((b : Int))], h)) rfl ?_
          refine s_iald (a := 58) (n := 201) (j := 0) hh rfl rfl rfl (by omega) (by omega) (by decide) (v := sI (hI h 58 0)) (hI_ok hh nw_p) ?_
          refine s_icmp (q := .ge) (a := (b : Int)) (b := hI h 58 0) rfl ⟨_, rfl⟩ rfl (by unfold sR aMi aMa; omega) (by unfold sR aMi aMa; omega) (fun hc1 => ?_) (fun hc1 => ?_)
          · have hc1 : ((hI h 58 0) : Int) ≤ ((b : Int)) := hc1
            omega
          · have hc1 : ¬ (((hI h 58 0) : Int) ≤ ((b : Int))) := hc1
            refine sP 2 (g1 := (30, [some (.ref 53), some (sI ((a : Int))), some (sI ((s : Int))), some (sI v), some (sI ((q : Int))), some (sI ((cq : Int))), some (sI ((b : Int))), none, none, none, none], [sI ((a : Int)), sI ((b : Int))], h)) rfl ?_
            refine s_icmp (q := .eq) (a := (b : Int)) (b := (a : Int)) rfl ⟨_, rfl⟩ rfl (by unfold sR aMi aMa; omega) (by unfold sR aMi aMa; omega) (fun hc2 => ?_) (fun hc2 => ?_)
            · have hc2 : (((b : Int)) : Int) = ((a : Int)) := hc2
              omega
            · have hc2 : ¬ ((((b : Int)) : Int) = ((a : Int))) := hc2
              refine sP 2 (g1 := (33, [some (.ref 53), some (sI ((a : Int))), some (sI ((s : Int))), some (sI v), some (sI ((q : Int))), some (sI ((cq : Int))), some (sI ((b : Int))), none, none, none, none], [sI ((b : Int)), sI ((s : Int))], h)) rfl ?_
              refine s_call (k := 149) (args := [sI ((s : Int)), sI ((b : Int))]) (st := []) (v := some (sI 0)) (h1 := h) rfl ⟨rfl, rfl⟩ rfl rfl rfl rfl rfl rfl va ?_
              refine s_ifc (q := .eq) (a := 0) rfl ⟨_, rfl⟩ rfl (by unfold sR aMi aMa; omega) (fun hc3 => ?_) (fun hc3 => ?_)
              · have hc3 : (0 : Int) = 0 := hc3
                refine s_inc (a := (b : Int)) (n := 1) (k := 6) rfl rfl rfl ?_
                refine sP 1 (g1 := (22, [some (.ref 53), some (sI ((a : Int))), some (sI ((s : Int))), some (sI v), some (sI ((q : Int))), some (sI ((cq : Int))), some (sI (((b : Int)) + 1)), none, none, none, none], [], h)) rfl ?_
                rw [show ((b : Int) + 1) = ((b + 1 : Nat) : Int) by omega]
                exact r0
              · have hc3 : ¬ ((0 : Int) = 0) := hc3
                omega
/-- the cells of looks to those whom one has not met -/
noncomputable def mOff (h g : mH) (l : List Nat) (a m : Nat) : Prop := (∀ p q, p ≠ 58 → aSlot g p q = aSlot h p q) ∧ ∀ q, (∀ k, k < m → q ≠ 7 + (6 * a + l.getD k 0)) → aSlot g 58 q = aSlot h 58 q
theorem fMmB {l : List Nat} {a s m C : Nat} {v F co : Int} (ha : a < 6) (hm : m ≤ 5) (hl : ∀ k, k < m → l.getD k 0 < 6) (hu : ∀ k, k < m → hI h 65 k = ((l.getD k 0 : Nat) : Int)) (hh : aHp h) : ∀ (c k x t : Nat) (g : mH), k + c = m → x < 1000000 → t ≤ k → aHp g → mOff h g l a m → ∃ g1, aHp g1 ∧ mOff h g1 l a m ∧ (fun j => hI g1 58 (7 + j)) = gD l a c k x (fun j => hI g 58 (7 + j)) ∧ ∀ r, (∀ y : Int, nRn sc (d + 3) (mMT mMe194) (mMC mMe194) (100, [some (.ref 53), some (sI (a : Int)), some (sI (s : Int)), some (sI v), some (sI (m : Int)), some (sI co), some (sI F), some (sI (C : Int)), some (sI ((t + mD c x : Nat) : Int)), some (sI y), some (sI (m : Int))], [], g1) r) → nRn sc (d + 3) (mMT mMe194) (mMC mMe194) (65, [some (.ref 53), some (sI (a : Int)), some (sI (s : Int)), some (sI v), some (sI (m : Int)), some (sI co), some (sI F), some (sI (C : Int)), some (sI (t : Int)), some (sI (x : Int)), some (sI (k : Int))], [], g) r := by
  intro c
  induction c with
  | zero =>
    intro k x t g hk hx ht hg ho
    have hkm : k = m := by omega
    subst hkm
    refine ⟨g, hg, ho, rfl, fun r r1 => ?_⟩
    have r0 := r1 (x : Int)
    rw [show t + mD 0 x = t from rfl] at r0
    refine sP 2 (g1 := (67, [some (.ref 53), some (sI ((a : Int))), some (sI ((s : Int))), some (sI v), some (sI ((k : Int))), some (sI co), some (sI F), some (sI ((C : Int))), some (sI ((t : Int))), some (sI ((x : Int))), some (sI ((k : Int)))], [sI ((k : Int)), sI ((k : Int))], g)) rfl ?_
    refine s_icmp (q := .ge) (a := (k : Int)) (b := (k : Int)) rfl ⟨_, rfl⟩ rfl (by unfold sR aMi aMa; omega) (by unfold sR aMi aMa; omega) (fun hc1 => ?_) (fun hc1 => ?_)
    · have hc1 : (((k : Int)) : Int) ≤ ((k : Int)) := hc1
      exact r0
    · have hc1 : ¬ ((((k : Int)) : Int) ≤ ((k : Int))) := hc1
      omega
  | succ c ih =>
    intro k x t g hk hx ht hg ho
    obtain ⟨u, eu⟩ : ∃ u, l.getD k 0 = u := ⟨_, rfl⟩
    have hu6 := hl k (by omega)
    have huk := hu k (by omega)
    rw [eu] at hu6 huk
    have u65 : aSlot g 65 k = some (sI (u : Int)) := by
      rw [ho.1 65 k (by omega)]
      have q := hI_ok hh (mx_c (show k < 6 by omega))
      rw [huk] at q
      exact q
    have x10 : x % 10 < 10 := Nat.mod_lt _ (by decide)
    have xd : x / 10 ≤ x := Nat.div_le_self _ _
    obtain ⟨g1, eg1⟩ : ∃ gz, gz = hset g 58 (7 + (6 * a + u)) (sI ((x % 10 : Nat) : Int)) := ⟨_, rfl⟩
    have sg1 : ∀ xa xm, aSlot g1 xa xm = if xa = 58 ∧ xm = 7 + (6 * a + u) then some (sI ((x % 10 : Nat) : Int)) else aSlot g xa xm := fun xa xm => by rw [eg1]; exact hset_slot hg (show sTg 58 = some (50, 201) from rfl) (by omega) xa xm
    have hg1 : aHp g1 := by rw [eg1]; exact hset_ii hg (nw_il (by omega)) (by omega) (by omega) (by unfold sR aMi aMa; omega)
    have ho1 : mOff h g1 l a m := ⟨fun p q w => by rw [sg1, if_neg (by omega), ho.1 p q w], fun q w => by
      have := w k (by omega)
      rw [eu] at this
      rw [sg1, if_neg (by omega), ho.2 q w]⟩
    have eG : (fun j => hI g1 58 (7 + j)) = gUp (fun j => hI g 58 (7 + j)) (6 * a + u) (x % 10) := funext (fun j => by
      unfold gUp
      show hI g1 58 (7 + j) = if j = 6 * a + u then ((x % 10 : Nat) : Int) else hI g 58 (7 + j)
      by_cases w : j = 6 * a + u
      · rw [if_pos w, w]
        exact hI_si (by rw [sg1, if_pos (by omega)]) (by unfold sR aMi aMa; omega)
      · rw [if_neg w]
        exact hI_cg (by rw [sg1, if_neg (by omega)]))
    have e1 : mD (c + 1) x = (if 0 < x % 10 then 1 else 0) + mD c (x / 10) := rfl
    have e2 : gD l a (c + 1) k x (fun j => hI g 58 (7 + j)) = gD l a c (k + 1) (x / 10) (gUp (fun j => hI g 58 (7 + j)) (6 * a + l.getD k 0) (x % 10)) := rfl
    rw [e2, eu]
    by_cases c0 : 0 < x % 10
    · obtain ⟨g2, i1, i2, i3, i4⟩ := ih (k + 1) (x / 10) (t + 1) g1 (by omega) (by omega) (by omega) hg1 ho1
      rw [eG] at i3
      refine ⟨g2, i1, i2, i3, fun r r1 => ?_⟩
      rw [e1, if_pos c0, show t + (1 + mD c (x / 10)) = t + 1 + mD c (x / 10) by omega] at r1
      have r0 := i4 r r1
      refine sP 2 (g1 := (67, [some (.ref 53), some (sI ((a : Int))), some (sI ((s : Int))), some (sI v), some (sI ((m : Int))), some (sI co), some (sI F), some (sI ((C : Int))), some (sI ((t : Int))), some (sI ((x : Int))), some (sI ((k : Int)))], [sI ((m : Int)), sI ((k : Int))], g)) rfl ?_
      refine s_icmp (q := .ge) (a := (k : Int)) (b := (m : Int)) rfl ⟨_, rfl⟩ rfl (by unfold sR aMi aMa; omega) (by unfold sR aMi aMa; omega) (fun hc1 => ?_) (fun hc1 => ?_)
      · have hc1 : (((m : Int)) : Int) ≤ ((k : Int)) := hc1
        omega
      · have hc1 : ¬ ((((m : Int)) : Int) ≤ ((k : Int))) := hc1
        refine sP 1 (g1 := (69, [some (.ref 53), some (sI ((a : Int))), some (sI ((s : Int))), some (sI v), some (sI ((m : Int))), some (sI co), some (sI F), some (sI ((C : Int))), some (sI ((t : Int))), some (sI ((x : Int))), some (sI ((k : Int)))], [.ref 53], g)) rfl ?_
        refine s_get (a := 53) (j := 4) hg rfl ⟨_, rfl⟩ rfl rfl rfl (v := .ref 58) (hR_ok hg (by decide +kernel)) ?_
        refine sP 3 (g1 := (73, [some (.ref 53), some (sI ((a : Int))), some (sI ((s : Int))), some (sI v), some (sI ((m : Int))), some (sI co), some (sI F), some (sI ((C : Int))), some (sI ((t : Int))), some (sI ((x : Int))), some (sI ((k : Int)))], [sI ((a : Int)), sI 6, sI 7, .ref 58], g)) rfl ?_
        refine s_mul (a := 6) (b := (a : Int)) rfl rfl ?_
        refine s_add (a := 7) (b := 6 * ((a : Int))) rfl rfl ?_
        refine sP 1 (g1 := (76, [some (.ref 53), some (sI ((a : Int))), some (sI ((s : Int))), some (sI v), some (sI ((m : Int))), some (sI co), some (sI F), some (sI ((C : Int))), some (sI ((t : Int))), some (sI ((x : Int))), some (sI ((k : Int)))], [.ref 53, sI (7 + (6 * ((a : Int)))), .ref 58], g)) rfl ?_
        refine s_get (a := 53) (j := 17) hg rfl ⟨_, rfl⟩ rfl rfl rfl (v := .ref 65) (hR_ok hg (by decide +kernel)) ?_
        refine sP 1 (g1 := (78, [some (.ref 53), some (sI ((a : Int))), some (sI ((s : Int))), some (sI v), some (sI ((m : Int))), some (sI co), some (sI F), some (sI ((C : Int))), some (sI ((t : Int))), some (sI ((x : Int))), some (sI ((k : Int)))], [sI ((k : Int)), .ref 65, sI (7 + (6 * ((a : Int)))), .ref 58], g)) rfl ?_
        refine s_iald (a := 65) (n := 6) (j := (k : Int)) hg rfl rfl rfl (by omega) (by omega) (by decide) (v := sI ((u : Int))) (by rw [Int.toNat_natCast]; exact u65) ?_
        refine s_add (a := 7 + (6 * ((a : Int)))) (b := (u : Int)) rfl rfl ?_
        refine sP 2 (g1 := (82, [some (.ref 53), some (sI ((a : Int))), some (sI ((s : Int))), some (sI v), some (sI ((m : Int))), some (sI co), some (sI F), some (sI ((C : Int))), some (sI ((t : Int))), some (sI ((x : Int))), some (sI ((k : Int)))], [sI 10, sI ((x : Int)), sI ((7 + (6 * ((a : Int)))) + ((u : Int))), .ref 58], g)) rfl ?_
        refine s_remN (a := x) (b := 10) rfl rfl (by omega) (by omega) (by omega) ?_
        refine s_iast (a := 58) (n := 201) (j := (7 + (6 * ((a : Int)))) + ((u : Int))) hg rfl rfl (show sTg 58 = some (50, 201) from rfl) (by omega) (by omega) (by decide) ?_
        rw [show ((7 + (6 * ((a : Int)))) + ((u : Int)) : Int).toNat = 7 + (6 * a + u) by omega]
        rw [← eg1]
        refine sP 3 (g1 := (87, [some (.ref 53), some (sI ((a : Int))), some (sI ((s : Int))), some (sI v), some (sI ((m : Int))), some (sI co), some (sI F), some (sI ((C : Int))), some (sI ((t : Int))), some (sI ((x : Int))), some (sI ((k : Int)))], [sI 10, sI ((x : Int)), sI ((t : Int))], g1)) rfl ?_
        refine s_remN (a := x) (b := 10) rfl rfl (by omega) (by omega) (by omega) ?_
        refine s_ifc (q := .le) (a := ((x % 10 : Nat) : Int)) rfl ⟨_, rfl⟩ rfl (by unfold sR aMi aMa; omega) (fun hc2 => ?_) (fun hc2 => ?_)
        · have hc2 : ((((x % 10 : Nat) : Int)) : Int) ≤ 0 := hc2
          omega
        · have hc2 : ¬ (((((x % 10 : Nat) : Int)) : Int) ≤ 0) := hc2
          refine sP 2 (g1 := (92, [some (.ref 53), some (sI ((a : Int))), some (sI ((s : Int))), some (sI v), some (sI ((m : Int))), some (sI co), some (sI F), some (sI ((C : Int))), some (sI ((t : Int))), some (sI ((x : Int))), some (sI ((k : Int)))], [sI 1, sI ((t : Int))], g1)) rfl ?_
          refine s_add (a := (t : Int)) (b := 1) rfl rfl ?_
          refine sP 3 (g1 := (96, [some (.ref 53), some (sI ((a : Int))), some (sI ((s : Int))), some (sI v), some (sI ((m : Int))), some (sI co), some (sI F), some (sI ((C : Int))), some (sI (((t : Int)) + 1)), some (sI ((x : Int))), some (sI ((k : Int)))], [sI 10, sI ((x : Int))], g1)) rfl ?_
          refine s_divN (a := x) (b := 10) rfl rfl (by omega) (by omega) (by omega) ?_
          refine sP 1 (g1 := (98, [some (.ref 53), some (sI ((a : Int))), some (sI ((s : Int))), some (sI v), some (sI ((m : Int))), some (sI co), some (sI F), some (sI ((C : Int))), some (sI (((t : Int)) + 1)), some (sI (((x / 10 : Nat) : Int))), some (sI ((k : Int)))], [], g1)) rfl ?_
          refine s_inc (a := (k : Int)) (n := 1) (k := 10) rfl rfl rfl ?_
          refine sP 1 (g1 := (65, [some (.ref 53), some (sI ((a : Int))), some (sI ((s : Int))), some (sI v), some (sI ((m : Int))), some (sI co), some (sI F), some (sI ((C : Int))), some (sI (((t : Int)) + 1)), some (sI (((x / 10 : Nat) : Int))), some (sI (((k : Int)) + 1))], [], g1)) rfl ?_
          rw [show ((k : Int) + 1) = ((k + 1 : Nat) : Int) by omega, show ((t : Int) + 1) = ((t + 1 : Nat) : Int) by omega]
          exact r0
    · obtain ⟨g2, i1, i2, i3, i4⟩ := ih (k + 1) (x / 10) t g1 (by omega) (by omega) (by omega) hg1 ho1
      rw [eG] at i3
      refine ⟨g2, i1, i2, i3, fun r r1 => ?_⟩
      rw [e1, if_neg c0, Nat.zero_add] at r1
      have r0 := i4 r r1
      refine sP 2 (g1 := (67, [some (.ref 53), some (sI ((a : Int))), some (sI ((s : Int))), some (sI v), some (sI ((m : Int))), some (sI co), some (sI F), some (sI ((C : Int))), some (sI ((t : Int))), some (sI ((x : Int))), some (sI ((k : Int)))], [sI ((m : Int)), sI ((k : Int))], g)) rfl ?_
      refine s_icmp (q := .ge) (a := (k : Int)) (b := (m : Int)) rfl ⟨_, rfl⟩ rfl (by unfold sR aMi aMa; omega) (by unfold sR aMi aMa; omega) (fun hc1 => ?_) (fun hc1 => ?_)
      · have hc1 : (((m : Int)) : Int) ≤ ((k : Int)) := hc1
        omega
      · have hc1 : ¬ ((((m : Int)) : Int) ≤ ((k : Int))) := hc1
        refine sP 1 (g1 := (69, [some (.ref 53), some (sI ((a : Int))), some (sI ((s : Int))), some (sI v), some (sI ((m : Int))), some (sI co), some (sI F), some (sI ((C : Int))), some (sI ((t : Int))), some (sI ((x : Int))), some (sI ((k : Int)))], [.ref 53], g)) rfl ?_
        refine s_get (a := 53) (j := 4) hg rfl ⟨_, rfl⟩ rfl rfl rfl (v := .ref 58) (hR_ok hg (by decide +kernel)) ?_
        refine sP 3 (g1 := (73, [some (.ref 53), some (sI ((a : Int))), some (sI ((s : Int))), some (sI v), some (sI ((m : Int))), some (sI co), some (sI F), some (sI ((C : Int))), some (sI ((t : Int))), some (sI ((x : Int))), some (sI ((k : Int)))], [sI ((a : Int)), sI 6, sI 7, .ref 58], g)) rfl ?_
        refine s_mul (a := 6) (b := (a : Int)) rfl rfl ?_
        refine s_add (a := 7) (b := 6 * ((a : Int))) rfl rfl ?_
        refine sP 1 (g1 := (76, [some (.ref 53), some (sI ((a : Int))), some (sI ((s : Int))), some (sI v), some (sI ((m : Int))), some (sI co), some (sI F), some (sI ((C : Int))), some (sI ((t : Int))), some (sI ((x : Int))), some (sI ((k : Int)))], [.ref 53, sI (7 + (6 * ((a : Int)))), .ref 58], g)) rfl ?_
        refine s_get (a := 53) (j := 17) hg rfl ⟨_, rfl⟩ rfl rfl rfl (v := .ref 65) (hR_ok hg (by decide +kernel)) ?_
        refine sP 1 (g1 := (78, [some (.ref 53), some (sI ((a : Int))), some (sI ((s : Int))), some (sI v), some (sI ((m : Int))), some (sI co), some (sI F), some (sI ((C : Int))), some (sI ((t : Int))), some (sI ((x : Int))), some (sI ((k : Int)))], [sI ((k : Int)), .ref 65, sI (7 + (6 * ((a : Int)))), .ref 58], g)) rfl ?_
        refine s_iald (a := 65) (n := 6) (j := (k : Int)) hg rfl rfl rfl (by omega) (by omega) (by decide) (v := sI ((u : Int))) (by rw [Int.toNat_natCast]; exact u65) ?_
        refine s_add (a := 7 + (6 * ((a : Int)))) (b := (u : Int)) rfl rfl ?_
        refine sP 2 (g1 := (82, [some (.ref 53), some (sI ((a : Int))), some (sI ((s : Int))), some (sI v), some (sI ((m : Int))), some (sI co), some (sI F), some (sI ((C : Int))), some (sI ((t : Int))), some (sI ((x : Int))), some (sI ((k : Int)))], [sI 10, sI ((x : Int)), sI ((7 + (6 * ((a : Int)))) + ((u : Int))), .ref 58], g)) rfl ?_
        refine s_remN (a := x) (b := 10) rfl rfl (by omega) (by omega) (by omega) ?_
        refine s_iast (a := 58) (n := 201) (j := (7 + (6 * ((a : Int)))) + ((u : Int))) hg rfl rfl (show sTg 58 = some (50, 201) from rfl) (by omega) (by omega) (by decide) ?_
        rw [show ((7 + (6 * ((a : Int)))) + ((u : Int)) : Int).toNat = 7 + (6 * a + u) by omega]
        rw [← eg1]
        refine sP 3 (g1 := (87, [some (.ref 53), some (sI ((a : Int))), some (sI ((s : Int))), some (sI v), some (sI ((m : Int))), some (sI co), some (sI F), some (sI ((C : Int))), some (sI ((t : Int))), some (sI ((x : Int))), some (sI ((k : Int)))], [sI 10, sI ((x : Int)), sI ((t : Int))], g1)) rfl ?_
        refine s_remN (a := x) (b := 10) rfl rfl (by omega) (by omega) (by omega) ?_
        refine s_ifc (q := .le) (a := ((x % 10 : Nat) : Int)) rfl ⟨_, rfl⟩ rfl (by unfold sR aMi aMa; omega) (fun hc2 => ?_) (fun hc2 => ?_)
        · have hc2 : ((((x % 10 : Nat) : Int)) : Int) ≤ 0 := hc2
          refine sP 1 (g1 := (92, [some (.ref 53), some (sI ((a : Int))), some (sI ((s : Int))), some (sI v), some (sI ((m : Int))), some (sI co), some (sI F), some (sI ((C : Int))), some (sI ((t : Int))), some (sI ((x : Int))), some (sI ((k : Int)))], [sI 0, sI ((t : Int))], g1)) rfl ?_
          refine s_add (a := (t : Int)) (b := 0) rfl rfl ?_
          refine sP 3 (g1 := (96, [some (.ref 53), some (sI ((a : Int))), some (sI ((s : Int))), some (sI v), some (sI ((m : Int))), some (sI co), some (sI F), some (sI ((C : Int))), some (sI (((t : Int)) + 0)), some (sI ((x : Int))), some (sI ((k : Int)))], [sI 10, sI ((x : Int))], g1)) rfl ?_
          refine s_divN (a := x) (b := 10) rfl rfl (by omega) (by omega) (by omega) ?_
          refine sP 1 (g1 := (98, [some (.ref 53), some (sI ((a : Int))), some (sI ((s : Int))), some (sI v), some (sI ((m : Int))), some (sI co), some (sI F), some (sI ((C : Int))), some (sI (((t : Int)) + 0)), some (sI (((x / 10 : Nat) : Int))), some (sI ((k : Int)))], [], g1)) rfl ?_
          refine s_inc (a := (k : Int)) (n := 1) (k := 10) rfl rfl rfl ?_
          refine sP 1 (g1 := (65, [some (.ref 53), some (sI ((a : Int))), some (sI ((s : Int))), some (sI v), some (sI ((m : Int))), some (sI co), some (sI F), some (sI ((C : Int))), some (sI (((t : Int)) + 0)), some (sI (((x / 10 : Nat) : Int))), some (sI (((k : Int)) + 1))], [], g1)) rfl ?_
          rw [show ((k : Int) + 1) = ((k + 1 : Nat) : Int) by omega, show ((t : Int) + 0) = ((t : Nat) : Int) by omega]
          exact r0
        · have hc2 : ¬ (((((x % 10 : Nat) : Int)) : Int) ≤ 0) := hc2
          omega
end MEETM

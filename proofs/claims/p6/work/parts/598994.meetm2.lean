/-! meetings, in the reference: all codes, looks back, the call -/
section MEETN
variable {sc : List Int32} {d : Nat} {h : mH}
theorem fMmC {l : List Nat} {a s m n kd co : Nat} {v : Int} (hn : hI h 58 0 = (n : Int)) (ha : a < n) (hs : s < 64) (hv : 0 ≤ v ∧ v ≤ 9) (hkd : hI h 58 (1 + a) = (kd : Int)) (hm : m ≤ 5) (hco : co ≤ 100000) (hl : ∀ k, k < m → l.getD k 0 < 6) (hu : ∀ k, k < m → hI h 65 k = ((l.getD k 0 : Nat) : Int)) (hh : aHp h) : ∀ (c C : Nat) (g : mH), C + c = co → aHp g → mOff h g l a m → ∃ g1, aHp g1 ∧ mOff h g1 l a m ∧ ∀ (X8 X9 X10 : Option Value) (r : mR), (∀ Y8 Y9 Y10 : Option Value, nRn sc (d + 3) (mMT mMe194) (mMC mMe194) (115, [some (.ref 53), some (sI (a : Int)), some (sI (s : Int)), some (sI v), some (sI (m : Int)), some (sI (co : Int)), some (sI (fwC (fun C => decide (pSeem (gD l a m 0 C (fun j => hI h 58 (7 + j))) n kd a s = v)) m co)), some (sI (co : Int)), Y8, Y9, Y10], [], g1) r) → nRn sc (d + 3) (mMT mMe194) (mMC mMe194) (56, [some (.ref 53), some (sI (a : Int)), some (sI (s : Int)), some (sI v), some (sI (m : Int)), some (sI (co : Int)), some (sI (fwC (fun C => decide (pSeem (gD l a m 0 C (fun j => hI h 58 (7 + j))) n kd a s = v)) m C)), some (sI (C : Int)), X8, X9, X10], [], g) r := by
  have gp := hI_rg hh nw_p
  have gk := hI_rg hh (nw_kd (show a < 6 by omega))
  intro c
  induction c with
  | zero =>
    intro C g hC hg ho
    have hCc : C = co := by omega
    subst hCc
    refine ⟨g, hg, ho, fun X8 X9 X10 r r1 => ?_⟩
    have r0 := r1 X8 X9 X10
    have fr := fwC_rg (fun C => decide (pSeem (gD l a m 0 C (fun j => hI h 58 (7 + j))) n kd a s = v)) m (by omega) C
    refine sP 2 (g1 := (58, [some (.ref 53), some (sI ((a : Int))), some (sI ((s : Int))), some (sI v), some (sI ((m : Int))), some (sI ((C : Int))), some (sI (fwC (fun C => decide (pSeem (gD l a m 0 C (fun j => hI h 58 (7 + j))) n kd a s = v)) m C)), some (sI ((C : Int))), X8, X9, X10], [sI ((C : Int)), sI ((C : Int))], g)) rfl ?_
    refine s_icmp (q := .ge) (a := (C : Int)) (b := (C : Int)) rfl ⟨_, rfl⟩ rfl (by unfold sR aMi aMa; omega) (by unfold sR aMi aMa; omega) (fun hc1 => ?_) (fun hc1 => ?_)
    · have hc1 : (((C : Int)) : Int) ≤ ((C : Int)) := hc1
      exact r0
    · have hc1 : ¬ ((((C : Int)) : Int) ≤ ((C : Int))) := hc1
      omega
  | succ c ih =>
    intro C g hC hg ho
    have fr := fwC_rg (fun C => decide (pSeem (gD l a m 0 C (fun j => hI h 58 (7 + j))) n kd a s = v)) m (by omega) C
    have md := mD_le m C
    obtain ⟨g1, i1, i2, i3, i4⟩ := fMmB (sc := sc) (d := d) (l := l) (a := a) (s := s) (m := m) (C := C) (v := v) (F := fwC (fun C => decide (pSeem (gD l a m 0 C (fun j => hI h 58 (7 + j))) n kd a s = v)) m C) (co := (co : Int)) (h := h) (by omega) hm hl hu hh m 0 C 0 g (by omega) (by omega) (by omega) hg ho
    have n1 : hI g1 58 0 = (n : Int) := (hI_cg (i2.2 0 (fun k hk => by have := hl k hk; omega))).trans hn
    have k1 : hI g1 58 (1 + a) = (kd : Int) := (hI_cg (i2.2 (1 + a) (fun k hk => by have := hl k hk; omega))).trans hkd
    have ev := fSeemM (sc := sc) (d := d) (n := n) (a := a) (s := s) (ka := kd) i1 n1 (by omega) hs k1
    have es : pSeem (fun j => hI g1 58 (7 + j)) n kd a s = pSeem (gD l a m 0 C (fun j => hI h 58 (7 + j))) n kd a s := by
      rw [i3]
      refine pSeem_cg (fun b hb => ?_)
      refine gD_cg m 0 C _ _ _ ?_
      by_cases w : ∃ i, 0 ≤ i ∧ i < 0 + m ∧ 6 * a + b = 6 * a + l.getD i 0
      · exact Or.inr w
      · left
        exact hI_cg (ho.2 _ (fun k hk q => w ⟨k, by omega, by omega, by omega⟩))
    rw [es] at ev
    have ps := pSeem_rg (n := n) (kd := kd) (s := s) (mGk i1) (show a < 6 by omega) (by omega)
    rw [es] at ps
    have e1 : fwC (fun C => decide (pSeem (gD l a m 0 C (fun j => hI h 58 (7 + j))) n kd a s = v)) m (C + 1) = if (mD m C : Int) < fwC (fun C => decide (pSeem (gD l a m 0 C (fun j => hI h 58 (7 + j))) n kd a s = v)) m C ∧ decide (pSeem (gD l a m 0 C (fun j => hI h 58 (7 + j))) n kd a s = v) = true then (mD m C : Int) else fwC (fun C => decide (pSeem (gD l a m 0 C (fun j => hI h 58 (7 + j))) n kd a s = v)) m C := rfl
    by_cases cc : (mD m C : Int) < fwC (fun C => decide (pSeem (gD l a m 0 C (fun j => hI h 58 (7 + j))) n kd a s = v)) m C ∧ pSeem (gD l a m 0 C (fun j => hI h 58 (7 + j))) n kd a s = v
    · rw [if_pos ⟨cc.1, decide_eq_true cc.2⟩] at e1
      obtain ⟨g2, j1, j2, j3⟩ := ih (C + 1) g1 (by omega) i1 i2
      refine ⟨g2, j1, j2, fun X8 X9 X10 r r1 => ?_⟩
      have r0 := fun X9 => j3 (some (sI ((mD m C : Nat) : Int))) X9 (some (sI (m : Int))) r r1
      rw [e1] at r0
      have hd : ∀ y : Int, nRn sc (d + 3) (mMT mMe194) (mMC mMe194) (100, [some (.ref 53), some (sI ((a : Int))), some (sI ((s : Int))), some (sI v), some (sI ((m : Int))), some (sI ((co : Int))), some (sI (fwC (fun C => decide (pSeem (gD l a m 0 C (fun j => hI h 58 (7 + j))) n kd a s = v)) m C)), some (sI ((C : Int))), some (sI (((0 + mD m C : Nat) : Int))), some (sI y), some (sI ((m : Int)))], [], g1) r := by
        intro y
        rw [Nat.zero_add]
        refine sP 2 (g1 := (102, [some (.ref 53), some (sI ((a : Int))), some (sI ((s : Int))), some (sI v), some (sI ((m : Int))), some (sI ((co : Int))), some (sI (fwC (fun C => decide (pSeem (gD l a m 0 C (fun j => hI h 58 (7 + j))) n kd a s = v)) m C)), some (sI ((C : Int))), some (sI (((mD m C : Nat) : Int))), some (sI y), some (sI ((m : Int)))], [sI (fwC (fun C => decide (pSeem (gD l a m 0 C (fun j => hI h 58 (7 + j))) n kd a s = v)) m C), sI (((mD m C : Nat) : Int))], g1)) rfl ?_
        refine s_icmp (q := .ge) (a := ((mD m C : Nat) : Int)) (b := fwC (fun C => decide (pSeem (gD l a m 0 C (fun j => hI h 58 (7 + j))) n kd a s = v)) m C) rfl ⟨_, rfl⟩ rfl (by unfold sR aMi aMa; omega) (by unfold sR aMi aMa; omega) (fun hc1 => ?_) (fun hc1 => ?_)
        · have hc1 : ((fwC (fun C => decide (pSeem (gD l a m 0 C (fun j => hI h 58 (7 + j))) n kd a s = v)) m C) : Int) ≤ (((mD m C : Nat) : Int)) := hc1
          omega
        · have hc1 : ¬ (((fwC (fun C => decide (pSeem (gD l a m 0 C (fun j => hI h 58 (7 + j))) n kd a s = v)) m C) : Int) ≤ (((mD m C : Nat) : Int))) := hc1
          refine sP 3 (g1 := (106, [some (.ref 53), some (sI ((a : Int))), some (sI ((s : Int))), some (sI v), some (sI ((m : Int))), some (sI ((co : Int))), some (sI (fwC (fun C => decide (pSeem (gD l a m 0 C (fun j => hI h 58 (7 + j))) n kd a s = v)) m C)), some (sI ((C : Int))), some (sI (((mD m C : Nat) : Int))), some (sI y), some (sI ((m : Int)))], [sI ((s : Int)), sI ((a : Int)), .ref 53], g1)) rfl ?_
          refine s_call (k := 150) (args := [.ref 53, sI ((a : Int)), sI ((s : Int))]) (st := []) (v := some (sI (pSeem (gD l a m 0 C (fun j => hI h 58 (7 + j))) n kd a s))) (h1 := g1) rfl ⟨rfl, rfl⟩ rfl rfl rfl rfl (sRcv i1 (a := 53) rfl rfl) rfl ev ?_
          refine sP 1 (g1 := (108, [some (.ref 53), some (sI ((a : Int))), some (sI ((s : Int))), some (sI v), some (sI ((m : Int))), some (sI ((co : Int))), some (sI (fwC (fun C => decide (pSeem (gD l a m 0 C (fun j => hI h 58 (7 + j))) n kd a s = v)) m C)), some (sI ((C : Int))), some (sI (((mD m C : Nat) : Int))), some (sI y), some (sI ((m : Int)))], [sI v, sI (pSeem (gD l a m 0 C (fun j => hI h 58 (7 + j))) n kd a s)], g1)) rfl ?_
          refine s_icmp (q := .ne) (a := pSeem (gD l a m 0 C (fun j => hI h 58 (7 + j))) n kd a s) (b := v) rfl ⟨_, rfl⟩ rfl (by unfold sR aMi aMa; omega) (by unfold sR aMi aMa; omega) (fun hc2 => ?_) (fun hc2 => ?_)
          · have hc2 : ((pSeem (gD l a m 0 C (fun j => hI h 58 (7 + j))) n kd a s) : Int) ≠ v := hc2
            omega
          · have hc2 : ¬ (((pSeem (gD l a m 0 C (fun j => hI h 58 (7 + j))) n kd a s) : Int) ≠ v) := hc2
            refine sP 3 (g1 := (113, [some (.ref 53), some (sI ((a : Int))), some (sI ((s : Int))), some (sI v), some (sI ((m : Int))), some (sI ((co : Int))), some (sI (((mD m C : Nat) : Int))), some (sI ((C : Int))), some (sI (((mD m C : Nat) : Int))), some (sI y), some (sI ((m : Int)))], [], g1)) rfl ?_
            refine s_inc (a := (C : Int)) (n := 1) (k := 7) rfl rfl rfl ?_
            refine sP 1 (g1 := (56, [some (.ref 53), some (sI ((a : Int))), some (sI ((s : Int))), some (sI v), some (sI ((m : Int))), some (sI ((co : Int))), some (sI (((mD m C : Nat) : Int))), some (sI (((C : Int)) + 1)), some (sI (((mD m C : Nat) : Int))), some (sI y), some (sI ((m : Int)))], [], g1)) rfl ?_
            rw [show ((C : Int) + 1) = ((C + 1 : Nat) : Int) by omega]
            exact r0 _
      refine sP 2 (g1 := (58, [some (.ref 53), some (sI ((a : Int))), some (sI ((s : Int))), some (sI v), some (sI ((m : Int))), some (sI ((co : Int))), some (sI (fwC (fun C => decide (pSeem (gD l a m 0 C (fun j => hI h 58 (7 + j))) n kd a s = v)) m C)), some (sI ((C : Int))), X8, X9, X10], [sI ((co : Int)), sI ((C : Int))], g)) rfl ?_
      refine s_icmp (q := .ge) (a := (C : Int)) (b := (co : Int)) rfl ⟨_, rfl⟩ rfl (by unfold sR aMi aMa; omega) (by unfold sR aMi aMa; omega) (fun hc1 => ?_) (fun hc1 => ?_)
      · have hc1 : (((co : Int)) : Int) ≤ ((C : Int)) := hc1
        omega
      · have hc1 : ¬ ((((co : Int)) : Int) ≤ ((C : Int))) := hc1
        refine sP 6 (g1 := (65, [some (.ref 53), some (sI ((a : Int))), some (sI ((s : Int))), some (sI v), some (sI ((m : Int))), some (sI ((co : Int))), some (sI (fwC (fun C => decide (pSeem (gD l a m 0 C (fun j => hI h 58 (7 + j))) n kd a s = v)) m C)), some (sI ((C : Int))), some (sI 0), some (sI ((C : Int))), some (sI 0)], [], g)) rfl ?_
        exact i4 r hd
    · rw [if_neg (fun q => cc ⟨q.1, of_decide_eq_true q.2⟩)] at e1
      obtain ⟨g2, j1, j2, j3⟩ := ih (C + 1) g1 (by omega) i1 i2
      refine ⟨g2, j1, j2, fun X8 X9 X10 r r1 => ?_⟩
      have r0 := fun X9 => j3 (some (sI ((mD m C : Nat) : Int))) X9 (some (sI (m : Int))) r r1
      rw [e1] at r0
      have hd : ∀ y : Int, nRn sc (d + 3) (mMT mMe194) (mMC mMe194) (100, [some (.ref 53), some (sI ((a : Int))), some (sI ((s : Int))), some (sI v), some (sI ((m : Int))), some (sI ((co : Int))), some (sI (fwC (fun C => decide (pSeem (gD l a m 0 C (fun j => hI h 58 (7 + j))) n kd a s = v)) m C)), some (sI ((C : Int))), some (sI (((0 + mD m C : Nat) : Int))), some (sI y), some (sI ((m : Int)))], [], g1) r := by
        intro y
        rw [Nat.zero_add]
        by_cases c2 : (mD m C : Int) < fwC (fun C => decide (pSeem (gD l a m 0 C (fun j => hI h 58 (7 + j))) n kd a s = v)) m C
        · have c3 : ¬ pSeem (gD l a m 0 C (fun j => hI h 58 (7 + j))) n kd a s = v := fun q => cc ⟨c2, q⟩
          refine sP 2 (g1 := (102, [some (.ref 53), some (sI ((a : Int))), some (sI ((s : Int))), some (sI v), some (sI ((m : Int))), some (sI ((co : Int))), some (sI (fwC (fun C => decide (pSeem (gD l a m 0 C (fun j => hI h 58 (7 + j))) n kd a s = v)) m C)), some (sI ((C : Int))), some (sI (((mD m C : Nat) : Int))), some (sI y), some (sI ((m : Int)))], [sI (fwC (fun C => decide (pSeem (gD l a m 0 C (fun j => hI h 58 (7 + j))) n kd a s = v)) m C), sI (((mD m C : Nat) : Int))], g1)) rfl ?_
          refine s_icmp (q := .ge) (a := ((mD m C : Nat) : Int)) (b := fwC (fun C => decide (pSeem (gD l a m 0 C (fun j => hI h 58 (7 + j))) n kd a s = v)) m C) rfl ⟨_, rfl⟩ rfl (by unfold sR aMi aMa; omega) (by unfold sR aMi aMa; omega) (fun hc1 => ?_) (fun hc1 => ?_)
          · have hc1 : ((fwC (fun C => decide (pSeem (gD l a m 0 C (fun j => hI h 58 (7 + j))) n kd a s = v)) m C) : Int) ≤ (((mD m C : Nat) : Int)) := hc1
            omega
          · have hc1 : ¬ (((fwC (fun C => decide (pSeem (gD l a m 0 C (fun j => hI h 58 (7 + j))) n kd a s = v)) m C) : Int) ≤ (((mD m C : Nat) : Int))) := hc1
            refine sP 3 (g1 := (106, [some (.ref 53), some (sI ((a : Int))), some (sI ((s : Int))), some (sI v), some (sI ((m : Int))), some (sI ((co : Int))), some (sI (fwC (fun C => decide (pSeem (gD l a m 0 C (fun j => hI h 58 (7 + j))) n kd a s = v)) m C)), some (sI ((C : Int))), some (sI (((mD m C : Nat) : Int))), some (sI y), some (sI ((m : Int)))], [sI ((s : Int)), sI ((a : Int)), .ref 53], g1)) rfl ?_
            refine s_call (k := 150) (args := [.ref 53, sI ((a : Int)), sI ((s : Int))]) (st := []) (v := some (sI (pSeem (gD l a m 0 C (fun j => hI h 58 (7 + j))) n kd a s))) (h1 := g1) rfl ⟨rfl, rfl⟩ rfl rfl rfl rfl (sRcv i1 (a := 53) rfl rfl) rfl ev ?_
            refine sP 1 (g1 := (108, [some (.ref 53), some (sI ((a : Int))), some (sI ((s : Int))), some (sI v), some (sI ((m : Int))), some (sI ((co : Int))), some (sI (fwC (fun C => decide (pSeem (gD l a m 0 C (fun j => hI h 58 (7 + j))) n kd a s = v)) m C)), some (sI ((C : Int))), some (sI (((mD m C : Nat) : Int))), some (sI y), some (sI ((m : Int)))], [sI v, sI (pSeem (gD l a m 0 C (fun j => hI h 58 (7 + j))) n kd a s)], g1)) rfl ?_
            refine s_icmp (q := .ne) (a := pSeem (gD l a m 0 C (fun j => hI h 58 (7 + j))) n kd a s) (b := v) rfl ⟨_, rfl⟩ rfl (by unfold sR aMi aMa; omega) (by unfold sR aMi aMa; omega) (fun hc2 => ?_) (fun hc2 => ?_)
            · have hc2 : ((pSeem (gD l a m 0 C (fun j => hI h 58 (7 + j))) n kd a s) : Int) ≠ v := hc2
              refine sP 2 (g1 := (113, [some (.ref 53), some (sI ((a : Int))), some (sI ((s : Int))), some (sI v), some (sI ((m : Int))), some (sI ((co : Int))), some (sI (fwC (fun C => decide (pSeem (gD l a m 0 C (fun j => hI h 58 (7 + j))) n kd a s = v)) m C)), some (sI ((C : Int))), some (sI (((mD m C : Nat) : Int))), some (sI y), some (sI ((m : Int)))], [], g1)) rfl ?_
              refine s_inc (a := (C : Int)) (n := 1) (k := 7) rfl rfl rfl ?_
              refine sP 1 (g1 := (56, [some (.ref 53), some (sI ((a : Int))), some (sI ((s : Int))), some (sI v), some (sI ((m : Int))), some (sI ((co : Int))), some (sI (fwC (fun C => decide (pSeem (gD l a m 0 C (fun j => hI h 58 (7 + j))) n kd a s = v)) m C)), some (sI (((C : Int)) + 1)), some (sI (((mD m C : Nat) : Int))), some (sI y), some (sI ((m : Int)))], [], g1)) rfl ?_
              rw [show ((C : Int) + 1) = ((C + 1 : Nat) : Int) by omega]
              exact r0 _
            · have hc2 : ¬ (((pSeem (gD l a m 0 C (fun j => hI h 58 (7 + j))) n kd a s) : Int) ≠ v) := hc2
              omega
        · skip
          refine sP 2 (g1 := (102, [some (.ref 53), some (sI ((a : Int))), some (sI ((s : Int))), some (sI v), some (sI ((m : Int))), some (sI ((co : Int))), some (sI (fwC (fun C => decide (pSeem (gD l a m 0 C (fun j => hI h 58 (7 + j))) n kd a s = v)) m C)), some (sI ((C : Int))), some (sI (((mD m C : Nat) : Int))), some (sI y), some (sI ((m : Int)))], [sI (fwC (fun C => decide (pSeem (gD l a m 0 C (fun j => hI h 58 (7 + j))) n kd a s = v)) m C), sI (((mD m C : Nat) : Int))], g1)) rfl ?_
          refine s_icmp (q := .ge) (a := ((mD m C : Nat) : Int)) (b := fwC (fun C => decide (pSeem (gD l a m 0 C (fun j => hI h 58 (7 + j))) n kd a s = v)) m C) rfl ⟨_, rfl⟩ rfl (by unfold sR aMi aMa; omega) (by unfold sR aMi aMa; omega) (fun hc1 => ?_) (fun hc1 => ?_)
          · have hc1 : ((fwC (fun C => decide (pSeem (gD l a m 0 C (fun j => hI h 58 (7 + j))) n kd a s = v)) m C) : Int) ≤ (((mD m C : Nat) : Int)) := hc1
            refine sP 2 (g1 := (113, [some (.ref 53), some (sI ((a : Int))), some (sI ((s : Int))), some (sI v), some (sI ((m : Int))), some (sI ((co : Int))), some (sI (fwC (fun C => decide (pSeem (gD l a m 0 C (fun j => hI h 58 (7 + j))) n kd a s = v)) m C)), some (sI ((C : Int))), some (sI (((mD m C : Nat) : Int))), some (sI y), some (sI ((m : Int)))], [], g1)) rfl ?_
            refine s_inc (a := (C : Int)) (n := 1) (k := 7) rfl rfl rfl ?_
            refine sP 1 (g1 := (56, [some (.ref 53), some (sI ((a : Int))), some (sI ((s : Int))), some (sI v), some (sI ((m : Int))), some (sI ((co : Int))), some (sI (fwC (fun C => decide (pSeem (gD l a m 0 C (fun j => hI h 58 (7 + j))) n kd a s = v)) m C)), some (sI (((C : Int)) + 1)), some (sI (((mD m C : Nat) : Int))), some (sI y), some (sI ((m : Int)))], [], g1)) rfl ?_
            rw [show ((C : Int) + 1) = ((C + 1 : Nat) : Int) by omega]
            exact r0 _
          · have hc1 : ¬ (((fwC (fun C => decide (pSeem (gD l a m 0 C (fun j => hI h 58 (7 + j))) n kd a s = v)) m C) : Int) ≤ (((mD m C : Nat) : Int))) := hc1
            omega
      refine sP 2 (g1 := (58, [some (.ref 53), some (sI ((a : Int))), some (sI ((s : Int))), some (sI v), some (sI ((m : Int))), some (sI ((co : Int))), some (sI (fwC (fun C => decide (pSeem (gD l a m 0 C (fun j => hI h 58 (7 + j))) n kd a s = v)) m C)), some (sI ((C : Int))), X8, X9, X10], [sI ((co : Int)), sI ((C : Int))], g)) rfl ?_
      refine s_icmp (q := .ge) (a := (C : Int)) (b := (co : Int)) rfl ⟨_, rfl⟩ rfl (by unfold sR aMi aMa; omega) (by unfold sR aMi aMa; omega) (fun hc1 => ?_) (fun hc1 => ?_)
      · have hc1 : (((co : Int)) : Int) ≤ ((C : Int)) := hc1
        omega
      · have hc1 : ¬ ((((co : Int)) : Int) ≤ ((C : Int))) := hc1
        refine sP 6 (g1 := (65, [some (.ref 53), some (sI ((a : Int))), some (sI ((s : Int))), some (sI v), some (sI ((m : Int))), some (sI ((co : Int))), some (sI (fwC (fun C => decide (pSeem (gD l a m 0 C (fun j => hI h 58 (7 + j))) n kd a s = v)) m C)), some (sI ((C : Int))), some (sI 0), some (sI ((C : Int))), some (sI 0)], [], g)) rfl ?_
        exact i4 r hd
theorem fMmD {l : List Nat} {a s m : Nat} {v co F : Int} {Y8 Y9 Y10 : Option Value} (ha : a < 6) (hm : m ≤ 5) (hl : ∀ k, k < m → l.getD k 0 < 6) (hu : ∀ k, k < m → hI h 65 k = ((l.getD k 0 : Nat) : Int)) (h0 : ∀ k, k < m → aSlot h 58 (7 + (6 * a + l.getD k 0)) = some (sI 0)) (hh : aHp h) : ∀ (c k : Nat) (g : mH), k + c = m → aHp g → mOff h g l a m → (∀ j, j < k → aSlot g 58 (7 + (6 * a + l.getD j 0)) = some (sI 0)) → ∀ r, nRn sc (d + 3) (mMT mMe194) (mMC mMe194) (136, [some (.ref 53), some (sI (a : Int)), some (sI (s : Int)), some (sI v), some (sI (m : Int)), some (sI co), some (sI F), some (sI (m : Int)), Y8, Y9, Y10], [], h) r → nRn sc (d + 3) (mMT mMe194) (mMC mMe194) (117, [some (.ref 53), some (sI (a : Int)), some (sI (s : Int)), some (sI v), some (sI (m : Int)), some (sI co), some (sI F), some (sI (k : Int)), Y8, Y9, Y10], [], g) r := by
  intro c
  induction c with
  | zero =>
    intro k g hk hg ho hz r r1
    have hkm : k = m := by omega
    subst hkm
    have eg : g = h := aHp_ext hh hg (fun p q => by
      by_cases c1 : p = 58
      · rw [c1]
        by_cases c2 : ∃ j, j < k ∧ q = 7 + (6 * a + l.getD j 0)
        · obtain ⟨j, j1, j2⟩ := c2
          rw [j2, hz j j1, h0 j j1]
        · exact ho.2 q (fun j hj e => c2 ⟨j, hj, e⟩)
      · exact ho.1 p q c1)
    rw [eg]
    refine sP 2 (g1 := (119, [some (.ref 53), some (sI ((a : Int))), some (sI ((s : Int))), some (sI v), some (sI ((k : Int))), some (sI co), some (sI F), some (sI ((k : Int))), Y8, Y9, Y10], [sI ((k : Int)), sI ((k : Int))], h)) rfl ?_
    refine s_icmp (q := .ge) (a := (k : Int)) (b := (k : Int)) rfl ⟨_, rfl⟩ rfl (by unfold sR aMi aMa; omega) (by unfold sR aMi aMa; omega) (fun hc1 => ?_) (fun hc1 => ?_)
    · have hc1 : (((k : Int)) : Int) ≤ ((k : Int)) := hc1
      exact r1
    · have hc1 : ¬ ((((k : Int)) : Int) ≤ ((k : Int))) := hc1
      omega
  | succ c ih =>
    intro k g hk hg ho hz r r1
    obtain ⟨u, eu⟩ : ∃ u, l.getD k 0 = u := ⟨_, rfl⟩
    have hu6 := hl k (by omega)
    have huk := hu k (by omega)
    rw [eu] at hu6 huk
    have u65 : aSlot g 65 k = some (sI (u : Int)) := by
      rw [ho.1 65 k (by omega)]
      have q := hI_ok hh (mx_c (show k < 6 by omega))
      rw [huk] at q
      exact q
    obtain ⟨g1, eg1⟩ : ∃ gz, gz = hset g 58 (7 + (6 * a + u)) (sI 0) := ⟨_, rfl⟩
    have sg1 : ∀ xa xm, aSlot g1 xa xm = if xa = 58 ∧ xm = 7 + (6 * a + u) then some (sI 0) else aSlot g xa xm := fun xa xm => by rw [eg1]; exact hset_slot hg (show sTg 58 = some (50, 201) from rfl) (by omega) xa xm
    have hg1 : aHp g1 := by rw [eg1]; exact hset_ii hg (nw_il (by omega)) (by omega) (by omega) (by unfold sR aMi aMa; omega)
    have ho1 : mOff h g1 l a m := ⟨fun p q w => by rw [sg1, if_neg (by omega), ho.1 p q w], fun q w => by
      have := w k (by omega)
      rw [eu] at this
      rw [sg1, if_neg (by omega), ho.2 q w]⟩
    have hz1 : ∀ j, j < k + 1 → aSlot g1 58 (7 + (6 * a + l.getD j 0)) = some (sI 0) := fun j hj => by
      rw [sg1]
      by_cases w : l.getD j 0 = u
      · rw [if_pos (by omega)]
      · rw [if_neg (by omega)]
        have : j ≠ k := fun e => w (by rw [e]; exact eu)
        exact hz j (by omega)
    have r0 := ih (k + 1) g1 (by omega) hg1 ho1 hz1 r r1
    refine sP 2 (g1 := (119, [some (.ref 53), some (sI ((a : Int))), some (sI ((s : Int))), some (sI v), some (sI ((m : Int))), some (sI co), some (sI F), some (sI ((k : Int))), Y8, Y9, Y10], [sI ((m : Int)), sI ((k : Int))], g)) rfl ?_
    refine s_icmp (q := .ge) (a := (k : Int)) (b := (m : Int)) rfl ⟨_, rfl⟩ rfl (by unfold sR aMi aMa; omega) (by unfold sR aMi aMa; omega) (fun hc1 => ?_) (fun hc1 => ?_)
    · have hc1 : (((m : Int)) : Int) ≤ ((k : Int)) := hc1
      omega
    · have hc1 : ¬ ((((m : Int)) : Int) ≤ ((k : Int))) := hc1
      refine sP 1 (g1 := (121, [some (.ref 53), some (sI ((a : Int))), some (sI ((s : Int))), some (sI v), some (sI ((m : Int))), some (sI co), some (sI F), some (sI ((k : Int))), Y8, Y9, Y10], [.ref 53], g)) rfl ?_
      refine s_get (a := 53) (j := 4) hg rfl ⟨_, rfl⟩ rfl rfl rfl (v := .ref 58) (hR_ok hg (by decide +kernel)) ?_
      refine sP 3 (g1 := (125, [some (.ref 53), some (sI ((a : Int))), some (sI ((s : Int))), some (sI v), some (sI ((m : Int))), some (sI co), some (sI F), some (sI ((k : Int))), Y8, Y9, Y10], [sI ((a : Int)), sI 6, sI 7, .ref 58], g)) rfl ?_
      refine s_mul (a := 6) (b := (a : Int)) rfl rfl ?_
      refine s_add (a := 7) (b := 6 * ((a : Int))) rfl rfl ?_
      refine sP 1 (g1 := (128, [some (.ref 53), some (sI ((a : Int))), some (sI ((s : Int))), some (sI v), some (sI ((m : Int))), some (sI co), some (sI F), some (sI ((k : Int))), Y8, Y9, Y10], [.ref 53, sI (7 + (6 * ((a : Int)))), .ref 58], g)) rfl ?_
      refine s_get (a := 53) (j := 17) hg rfl ⟨_, rfl⟩ rfl rfl rfl (v := .ref 65) (hR_ok hg (by decide +kernel)) ?_
      refine sP 1 (g1 := (130, [some (.ref 53), some (sI ((a : Int))), some (sI ((s : Int))), some (sI v), some (sI ((m : Int))), some (sI co), some (sI F), some (sI ((k : Int))), Y8, Y9, Y10], [sI ((k : Int)), .ref 65, sI (7 + (6 * ((a : Int)))), .ref 58], g)) rfl ?_
      refine s_iald (a := 65) (n := 6) (j := (k : Int)) hg rfl rfl rfl (by omega) (by omega) (by decide) (v := sI ((u : Int))) (by rw [Int.toNat_natCast]; exact u65) ?_
      refine s_add (a := 7 + (6 * ((a : Int)))) (b := (u : Int)) rfl rfl ?_
      refine sP 1 (g1 := (133, [some (.ref 53), some (sI ((a : Int))), some (sI ((s : Int))), some (sI v), some (sI ((m : Int))), some (sI co), some (sI F), some (sI ((k : Int))), Y8, Y9, Y10], [sI 0, sI ((7 + (6 * ((a : Int)))) + ((u : Int))), .ref 58], g)) rfl ?_
      refine s_iast (a := 58) (n := 201) (j := (7 + (6 * ((a : Int)))) + ((u : Int))) hg rfl rfl (show sTg 58 = some (50, 201) from rfl) (by omega) (by omega) (by decide) ?_
      rw [show ((7 + (6 * ((a : Int)))) + ((u : Int)) : Int).toNat = 7 + (6 * a + u) by omega]
      rw [← eg1]
      refine s_inc (a := (k : Int)) (n := 1) (k := 7) rfl rfl rfl ?_
      refine sP 1 (g1 := (117, [some (.ref 53), some (sI ((a : Int))), some (sI ((s : Int))), some (sI v), some (sI ((m : Int))), some (sI co), some (sI F), some (sI (((k : Int)) + 1)), Y8, Y9, Y10], [], g1)) rfl ?_
      rw [show ((k : Int) + 1) = ((k + 1 : Nat) : Int) by omega]
      exact r0
theorem fMmb0 {a s v : Int} {n : Nat} (hh : aHp h) (hn : hI h 58 0 = (n : Int)) (ra : sR a) (rs : sR s) (rv : sR v) (hc : ¬ (0 ≤ a ∧ a < (n : Int))) : nEv sc (d + 4) 194 [.ref 53, sI a, sI s, sI v] h (some (sI (-1)), h) := by
  have gp := hI_rg hh nw_p
  have p2 := p2_le (show n ≤ 6 by omega)
  unfold sR aMi aMa at ra rs rv
  refine nEv_of (t := mMe194) rfl ?_
  show nRn sc (d + 3) (mMT mMe194) (mMC mMe194) (0, [some (.ref 53), some (sI a), some (sI s), some (sI v), none, none, none, none, none, none, none], [], h) _
  refine sP 2 (g1 := (2, [some (.ref 53), some (sI a), some (sI s), some (sI v), none, none, none, none, none, none, none], [sI a, .ref 53], h)) rfl ?_
  have ev1 := fIsPerson (sc := sc) (d := d + 1) (a := a) hh (by unfold sR aMi aMa; omega)
  rw [if_neg (by omega)] at ev1
  refine s_call (k := 147) (args := [.ref 53, sI a]) (st := []) (v := some (sI 0)) (h1 := h) rfl ⟨rfl, rfl⟩ rfl rfl rfl rfl (sRcv hh (a := 53) rfl rfl) rfl ev1 ?_
  refine s_ifc (q := .eq) (a := 0) rfl ⟨_, rfl⟩ rfl (by unfold sR aMi aMa; omega) (fun hc2 => ?_) (fun hc2 => ?_)
  · have hc2 : (0 : Int) = 0 := hc2
    refine sP 1 (g1 := (15, [some (.ref 53), some (sI a), some (sI s), some (sI v), none, none, none, none, none, none, none], [sI ((-1))], h)) rfl ?_
    exact s_reti rfl rfl (Or.inl rfl) rfl rfl
  · have hc2 : ¬ ((0 : Int) = 0) := hc2
    omega
theorem fMmb1 {a s v : Int} {n : Nat} (hh : aHp h) (hn : hI h 58 0 = (n : Int)) (ra : sR a) (rs : sR s) (rv : sR v) (hc : (0 ≤ a ∧ a < (n : Int)) ∧ ¬ (0 ≤ s ∧ s < ((2 ^ n : Nat) : Int))) : nEv sc (d + 4) 194 [.ref 53, sI a, sI s, sI v] h (some (sI (-1)), h) := by
  have gp := hI_rg hh nw_p
  have p2 := p2_le (show n ≤ 6 by omega)
  unfold sR aMi aMa at ra rs rv
  refine nEv_of (t := mMe194) rfl ?_
  show nRn sc (d + 3) (mMT mMe194) (mMC mMe194) (0, [some (.ref 53), some (sI a), some (sI s), some (sI v), none, none, none, none, none, none, none], [], h) _
  refine sP 2 (g1 := (2, [some (.ref 53), some (sI a), some (sI s), some (sI v), none, none, none, none, none, none, none], [sI a, .ref 53], h)) rfl ?_
  have ev1 := fIsPerson (sc := sc) (d := d + 1) (a := a) hh (by unfold sR aMi aMa; omega)
  rw [if_pos (by omega)] at ev1
  refine s_call (k := 147) (args := [.ref 53, sI a]) (st := []) (v := some (sI 1)) (h1 := h) rfl ⟨rfl, rfl⟩ rfl rfl rfl rfl (sRcv hh (a := 53) rfl rfl) rfl ev1 ?_
  refine s_ifc (q := .eq) (a := 1) rfl ⟨_, rfl⟩ rfl (by unfold sR aMi aMa; omega) (fun hc2 => ?_) (fun hc2 => ?_)
  · have hc2 : (1 : Int) = 0 := hc2
    omega
  · have hc2 : ¬ ((1 : Int) = 0) := hc2
    refine sP 2 (g1 := (6, [some (.ref 53), some (sI a), some (sI s), some (sI v), none, none, none, none, none, none, none], [sI s, .ref 53], h)) rfl ?_
    have ev3 := fIsSet (sc := sc) (d := d + 1) (n := n) (s := s) hh hn (by unfold sR aMi aMa; omega)
    rw [if_neg (by omega)] at ev3
    refine s_call (k := 181) (args := [.ref 53, sI s]) (st := []) (v := some (sI 0)) (h1 := h) rfl ⟨rfl, rfl⟩ rfl rfl rfl rfl (sRcv hh (a := 53) rfl rfl) rfl ev3 ?_
    refine s_ifc (q := .eq) (a := 0) rfl ⟨_, rfl⟩ rfl (by unfold sR aMi aMa; omega) (fun hc4 => ?_) (fun hc4 => ?_)
    · have hc4 : (0 : Int) = 0 := hc4
      refine sP 1 (g1 := (15, [some (.ref 53), some (sI a), some (sI s), some (sI v), none, none, none, none, none, none, none], [sI ((-1))], h)) rfl ?_
      exact s_reti rfl rfl (Or.inl rfl) rfl rfl
    · have hc4 : ¬ ((0 : Int) = 0) := hc4
      omega
theorem fMmb2 {a s v : Int} {n : Nat} (hh : aHp h) (hn : hI h 58 0 = (n : Int)) (ra : sR a) (rs : sR s) (rv : sR v) (hc : (0 ≤ a ∧ a < (n : Int)) ∧ (0 ≤ s ∧ s < ((2 ^ n : Nat) : Int)) ∧ ¬ (0 ≤ v ∧ v ≤ 9)) : nEv sc (d + 4) 194 [.ref 53, sI a, sI s, sI v] h (some (sI (-1)), h) := by
  have gp := hI_rg hh nw_p
  have p2 := p2_le (show n ≤ 6 by omega)
  unfold sR aMi aMa at ra rs rv
  refine nEv_of (t := mMe194) rfl ?_
  show nRn sc (d + 3) (mMT mMe194) (mMC mMe194) (0, [some (.ref 53), some (sI a), some (sI s), some (sI v), none, none, none, none, none, none, none], [], h) _
  refine sP 2 (g1 := (2, [some (.ref 53), some (sI a), some (sI s), some (sI v), none, none, none, none, none, none, none], [sI a, .ref 53], h)) rfl ?_
  have ev1 := fIsPerson (sc := sc) (d := d + 1) (a := a) hh (by unfold sR aMi aMa; omega)
  rw [if_pos (by omega)] at ev1
  refine s_call (k := 147) (args := [.ref 53, sI a]) (st := []) (v := some (sI 1)) (h1 := h) rfl ⟨rfl, rfl⟩ rfl rfl rfl rfl (sRcv hh (a := 53) rfl rfl) rfl ev1 ?_
  refine s_ifc (q := .eq) (a := 1) rfl ⟨_, rfl⟩ rfl (by unfold sR aMi aMa; omega) (fun hc2 => ?_) (fun hc2 => ?_)
  · have hc2 : (1 : Int) = 0 := hc2
    omega
  · have hc2 : ¬ ((1 : Int) = 0) := hc2
    refine sP 2 (g1 := (6, [some (.ref 53), some (sI a), some (sI s), some (sI v), none, none, none, none, none, none, none], [sI s, .ref 53], h)) rfl ?_
    have ev3 := fIsSet (sc := sc) (d := d + 1) (n := n) (s := s) hh hn (by unfold sR aMi aMa; omega)
    rw [if_pos (by omega)] at ev3
    refine s_call (k := 181) (args := [.ref 53, sI s]) (st := []) (v := some (sI 1)) (h1 := h) rfl ⟨rfl, rfl⟩ rfl rfl rfl rfl (sRcv hh (a := 53) rfl rfl) rfl ev3 ?_
    refine s_ifc (q := .eq) (a := 1) rfl ⟨_, rfl⟩ rfl (by unfold sR aMi aMa; omega) (fun hc4 => ?_) (fun hc4 => ?_)
    · have hc4 : (1 : Int) = 0 := hc4
      omega
    · have hc4 : ¬ ((1 : Int) = 0) := hc4
      refine sP 1 (g1 := (9, [some (.ref 53), some (sI a), some (sI s), some (sI v), none, none, none, none, none, none, none], [sI v], h)) rfl ?_
      refine s_i2l (a := v) rfl rfl (by unfold sR aMi aMa; omega) ?_
      refine sP 2 (g1 := (12, [some (.ref 53), some (sI a), some (sI s), some (sI v), none, none, none, none, none, none, none], [sJ 9, sJ 0, sJ v], h)) rfl ?_
      have ev5 := fIn (sc := sc) (d := d + 2) (h := h) (a := v) (b := 0) (e := 9) (by omega) (by omega) (by omega) (by omega) (by omega) (by omega)
      rw [if_neg (by omega)] at ev5
      refine s_call (k := 127) (args := [sJ v, sJ 0, sJ 9]) (st := []) (v := some (sI 0)) (h1 := h) rfl ⟨rfl, rfl⟩ rfl rfl rfl rfl rfl rfl ev5 ?_
      refine s_ifc (q := .ne) (a := 0) rfl ⟨_, rfl⟩ rfl (by unfold sR aMi aMa; omega) (fun hc6 => ?_) (fun hc6 => ?_)
      · have hc6 : (0 : Int) ≠ 0 := hc6
        omega
      · have hc6 : ¬ ((0 : Int) ≠ 0) := hc6
        refine sP 1 (g1 := (15, [some (.ref 53), some (sI a), some (sI s), some (sI v), none, none, none, none, none, none, none], [sI ((-1))], h)) rfl ?_
        exact s_reti rfl rfl (Or.inl rfl) rfl rfl
theorem fMmt {n kd a s : Nat} {v : Int} (hh : aHp h) (hn : hI h 58 0 = (n : Int)) (ha : a < n) (hs : s < 2 ^ n) (hv : 0 ≤ v ∧ v ≤ 9) (hkd : hI h 58 (1 + a) = (kd : Int)) : ∃ g, nEv sc (d + 4) 194 [.ref 53, sI (a : Int), sI (s : Int), sI v] h (some (sI (if fwC (fun C => decide (pSeem (gD (uq (fun j => hI h 58 (7 + j)) a s n) a (uq (fun j => hI h 58 (7 + j)) a s n).length 0 C (fun j => hI h 58 (7 + j))) n kd a s = v)) (uq (fun j => hI h 58 (7 + j)) a s n).length (10 ^ (uq (fun j => hI h 58 (7 + j)) a s n).length) = 1000000 then -9 else fwC (fun C => decide (pSeem (gD (uq (fun j => hI h 58 (7 + j)) a s n) a (uq (fun j => hI h 58 (7 + j)) a s n).length 0 C (fun j => hI h 58 (7 + j))) n kd a s = v)) (uq (fun j => hI h 58 (7 + j)) a s n).length (10 ^ (uq (fun j => hI h 58 (7 + j)) a s n).length))), g) ∧ aHp g ∧ ∀ p m, p ≠ 65 → aSlot g p m = aSlot h p m := by
  have gp := hI_rg hh nw_p
  have p2 := p2_le (show n ≤ 6 by omega)
  obtain ⟨g, i1, i2, i3, i4⟩ := fMmA (sc := sc) (d := d) (n := n) (a := a) (s := s) (v := v) ha (by omega) n 0 h (by omega) hh hn (fun k hk => absurd hk (by simp [uq]))
  have eG : (fun j => hI g 58 (7 + j)) = (fun j => hI h 58 (7 + j)) := funext (fun j => hI_cg (i2 58 _ (by omega)))
  have ul := (uq_len (fun j => hI h 58 (7 + j)) a s n).2 ha
  have ua := uq_at (fun j => hI h 58 (7 + j)) a s n
  have pq := p10_le (show (uq (fun j => hI h 58 (7 + j)) a s n).length ≤ 5 by omega)
  obtain ⟨g2, j1, j2, j3⟩ := fMmC (sc := sc) (d := d) (l := (uq (fun j => hI h 58 (7 + j)) a s n)) (a := a) (s := s) (m := (uq (fun j => hI h 58 (7 + j)) a s n).length) (n := n) (kd := kd) (co := 10 ^ (uq (fun j => hI h 58 (7 + j)) a s n).length) (v := v) (h := g) ((hI_cg (i2 58 0 (by omega))).trans hn) ha (by omega) hv ((hI_cg (i2 58 _ (by omega))).trans hkd) (by omega) pq.2 (fun k hk => by have := ua k hk; omega) i3 i1 (10 ^ (uq (fun j => hI h 58 (7 + j)) a s n).length) 0 g (by omega) i1 ⟨fun _ _ _ => rfl, fun _ _ => rfl⟩
  rw [eG] at j3
  refine ⟨g, nEv_of (t := mMe194) rfl ?_, i1, i2⟩
  have fr := fwC_rg (fun C => decide (pSeem (gD (uq (fun j => hI h 58 (7 + j)) a s n) a (uq (fun j => hI h 58 (7 + j)) a s n).length 0 C (fun j => hI h 58 (7 + j))) n kd a s = v)) (uq (fun j => hI h 58 (7 + j)) a s n).length (by omega) (10 ^ (uq (fun j => hI h 58 (7 + j)) a s n).length)
  have r2 : ∀ Y8 Y9 Y10 : Option Value, nRn sc (d + 3) (mMT mMe194) (mMC mMe194) (115, [some (.ref 53), some (sI (a : Int)), some (sI (s : Int)), some (sI v), some (sI (((uq (fun j => hI h 58 (7 + j)) a s n).length : Nat) : Int)), some (sI ((10 ^ (uq (fun j => hI h 58 (7 + j)) a s n).length : Nat) : Int)), some (sI (fwC (fun C => decide (pSeem (gD (uq (fun j => hI h 58 (7 + j)) a s n) a (uq (fun j => hI h 58 (7 + j)) a s n).length 0 C (fun j => hI h 58 (7 + j))) n kd a s = v)) (uq (fun j => hI h 58 (7 + j)) a s n).length (10 ^ (uq (fun j => hI h 58 (7 + j)) a s n).length))), some (sI ((10 ^ (uq (fun j => hI h 58 (7 + j)) a s n).length : Nat) : Int)), Y8, Y9, Y10], [], g2) (some (sI (if fwC (fun C => decide (pSeem (gD (uq (fun j => hI h 58 (7 + j)) a s n) a (uq (fun j => hI h 58 (7 + j)) a s n).length 0 C (fun j => hI h 58 (7 + j))) n kd a s = v)) (uq (fun j => hI h 58 (7 + j)) a s n).length (10 ^ (uq (fun j => hI h 58 (7 + j)) a s n).length) = 1000000 then -9 else fwC (fun C => decide (pSeem (gD (uq (fun j => hI h 58 (7 + j)) a s n) a (uq (fun j => hI h 58 (7 + j)) a s n).length 0 C (fun j => hI h 58 (7 + j))) n kd a s = v)) (uq (fun j => hI h 58 (7 + j)) a s n).length (10 ^ (uq (fun j => hI h 58 (7 + j)) a s n).length))), g) := by
    intro Y8 Y9 Y10
    have r3 := fMmD (sc := sc) (d := d) (l := (uq (fun j => hI h 58 (7 + j)) a s n)) (a := a) (s := s) (m := (uq (fun j => hI h 58 (7 + j)) a s n).length) (v := v) (co := ((10 ^ (uq (fun j => hI h 58 (7 + j)) a s n).length : Nat) : Int)) (F := fwC (fun C => decide (pSeem (gD (uq (fun j => hI h 58 (7 + j)) a s n) a (uq (fun j => hI h 58 (7 + j)) a s n).length 0 C (fun j => hI h 58 (7 + j))) n kd a s = v)) (uq (fun j => hI h 58 (7 + j)) a s n).length (10 ^ (uq (fun j => hI h 58 (7 + j)) a s n).length)) (Y8 := Y8) (Y9 := Y9) (Y10 := Y10) (h := g) (by omega) (by omega) (fun k hk => by have := ua k hk; omega) i3 (fun k hk => by
      have := ua k hk
      rw [i2 58 _ (by omega), hI_ok hh (nw_lk (show 6 * a + (uq (fun j => hI h 58 (7 + j)) a s n).getD k 0 < 36 by omega)), this.2.2]) i1 (uq (fun j => hI h 58 (7 + j)) a s n).length 0 g2 (by omega) j1 j2 (fun j hj => absurd hj (by omega)) (some (sI (if fwC (fun C => decide (pSeem (gD (uq (fun j => hI h 58 (7 + j)) a s n) a (uq (fun j => hI h 58 (7 + j)) a s n).length 0 C (fun j => hI h 58 (7 + j))) n kd a s = v)) (uq (fun j => hI h 58 (7 + j)) a s n).length (10 ^ (uq (fun j => hI h 58 (7 + j)) a s n).length) = 1000000 then -9 else fwC (fun C => decide (pSeem (gD (uq (fun j => hI h 58 (7 + j)) a s n) a (uq (fun j => hI h 58 (7 + j)) a s n).length 0 C (fun j => hI h 58 (7 + j))) n kd a s = v)) (uq (fun j => hI h 58 (7 + j)) a s n).length (10 ^ (uq (fun j => hI h 58 (7 + j)) a s n).length))), g)
    generalize hF : fwC (fun C => decide (pSeem (gD (uq (fun j => hI h 58 (7 + j)) a s n) a (uq (fun j => hI h 58 (7 + j)) a s n).length 0 C (fun j => hI h 58 (7 + j))) n kd a s = v)) (uq (fun j => hI h 58 (7 + j)) a s n).length (10 ^ (uq (fun j => hI h 58 (7 + j)) a s n).length) = F at *
    generalize hL : (uq (fun j => hI h 58 (7 + j)) a s n).length = q at *
    generalize 10 ^ q = cq at *
    refine sP 2 (g1 := (117, [some (.ref 53), some (sI (a : Int)), some (sI (s : Int)), some (sI v), some (sI (q : Int)), some (sI (cq : Int)), some (sI F), some (sI ((0 : Nat) : Int)), Y8, Y9, Y10], [], g2)) rfl ?_
    refine r3 ?_
    refine sP 2 (g1 := (138, [some (.ref 53), some (sI ((a : Int))), some (sI ((s : Int))), some (sI v), some (sI ((q : Int))), some (sI ((cq : Int))), some (sI F), some (sI ((q : Int))), Y8, Y9, Y10], [sI 1000000, sI F], g)) rfl ?_
    refine s_icmp (q := .ne) (a := F) (b := 1000000) rfl ⟨_, rfl⟩ rfl (by unfold sR aMi aMa; omega) (by unfold sR aMi aMa; omega) (fun hc1 => ?_) (fun hc1 => ?_)
    · have hc1 : (F : Int) ≠ 1000000 := hc1
      refine sP 1 (g1 := (142, [some (.ref 53), some (sI ((a : Int))), some (sI ((s : Int))), some (sI v), some (sI ((q : Int))), some (sI ((cq : Int))), some (sI F), some (sI ((q : Int))), Y8, Y9, Y10], [sI F], g)) rfl ?_
      exact s_reti rfl rfl (Or.inl rfl) (by first | rw [if_pos (by omega)] | rw [if_neg (by omega)]) rfl
    · have hc1 : ¬ ((F : Int) ≠ 1000000) := hc1
      refine sP 2 (g1 := (142, [some (.ref 53), some (sI ((a : Int))), some (sI ((s : Int))), some (sI v), some (sI ((q : Int))), some (sI ((cq : Int))), some (sI F), some (sI ((q : Int))), Y8, Y9, Y10], [sI ((-9))], g)) rfl ?_
      exact s_reti rfl rfl (Or.inl rfl) (by first | rw [if_pos (by omega)] | rw [if_neg (by omega)]) rfl
  have r4 := i4 (some (sI (if fwC (fun C => decide (pSeem (gD (uq (fun j => hI h 58 (7 + j)) a s n) a (uq (fun j => hI h 58 (7 + j)) a s n).length 0 C (fun j => hI h 58 (7 + j))) n kd a s = v)) (uq (fun j => hI h 58 (7 + j)) a s n).length (10 ^ (uq (fun j => hI h 58 (7 + j)) a s n).length) = 1000000 then -9 else fwC (fun C => decide (pSeem (gD (uq (fun j => hI h 58 (7 + j)) a s n) a (uq (fun j => hI h 58 (7 + j)) a s n).length 0 C (fun j => hI h 58 (7 + j))) n kd a s = v)) (uq (fun j => hI h 58 (7 + j)) a s n).length (10 ^ (uq (fun j => hI h 58 (7 + j)) a s n).length))), g) ?_
  · skip
    show nRn sc (d + 3) (mMT mMe194) (mMC mMe194) (0, [some (.ref 53), some (sI ((a : Int))), some (sI ((s : Int))), some (sI v), none, none, none, none, none, none, none], [], h) _
    refine sP 2 (g1 := (2, [some (.ref 53), some (sI ((a : Int))), some (sI ((s : Int))), some (sI v), none, none, none, none, none, none, none], [sI ((a : Int)), .ref 53], h)) rfl ?_
    have ev1 := fIsPerson (sc := sc) (d := d + 1) (a := (a : Int)) hh (by unfold sR aMi aMa; omega)
    rw [if_pos (by omega)] at ev1
    refine s_call (k := 147) (args := [.ref 53, sI ((a : Int))]) (st := []) (v := some (sI 1)) (h1 := h) rfl ⟨rfl, rfl⟩ rfl rfl rfl rfl (sRcv hh (a := 53) rfl rfl) rfl ev1 ?_
    refine s_ifc (q := .eq) (a := 1) rfl ⟨_, rfl⟩ rfl (by unfold sR aMi aMa; omega) (fun hc2 => ?_) (fun hc2 => ?_)
    · have hc2 : (1 : Int) = 0 := hc2
      omega
    · have hc2 : ¬ ((1 : Int) = 0) := hc2
      refine sP 2 (g1 := (6, [some (.ref 53), some (sI ((a : Int))), some (sI ((s : Int))), some (sI v), none, none, none, none, none, none, none], [sI ((s : Int)), .ref 53], h)) rfl ?_
      have ev3 := fIsSet (sc := sc) (d := d + 1) (n := n) (s := (s : Int)) hh hn (by unfold sR aMi aMa; omega)
      rw [if_pos (by omega)] at ev3
      refine s_call (k := 181) (args := [.ref 53, sI ((s : Int))]) (st := []) (v := some (sI 1)) (h1 := h) rfl ⟨rfl, rfl⟩ rfl rfl rfl rfl (sRcv hh (a := 53) rfl rfl) rfl ev3 ?_
      refine s_ifc (q := .eq) (a := 1) rfl ⟨_, rfl⟩ rfl (by unfold sR aMi aMa; omega) (fun hc4 => ?_) (fun hc4 => ?_)
      · have hc4 : (1 : Int) = 0 := hc4
        omega
      · have hc4 : ¬ ((1 : Int) = 0) := hc4
        refine sP 1 (g1 := (9, [some (.ref 53), some (sI ((a : Int))), some (sI ((s : Int))), some (sI v), none, none, none, none, none, none, none], [sI v], h)) rfl ?_
        refine s_i2l (a := v) rfl rfl (by unfold sR aMi aMa; omega) ?_
        refine sP 2 (g1 := (12, [some (.ref 53), some (sI ((a : Int))), some (sI ((s : Int))), some (sI v), none, none, none, none, none, none, none], [sJ 9, sJ 0, sJ v], h)) rfl ?_
        have ev5 := fIn (sc := sc) (d := d + 2) (h := h) (a := v) (b := 0) (e := 9) (by omega) (by omega) (by omega) (by omega) (by omega) (by omega)
        rw [if_pos (by omega)] at ev5
        refine s_call (k := 127) (args := [sJ v, sJ 0, sJ 9]) (st := []) (v := some (sI 1)) (h1 := h) rfl ⟨rfl, rfl⟩ rfl rfl rfl rfl rfl rfl ev5 ?_
        refine s_ifc (q := .ne) (a := 1) rfl ⟨_, rfl⟩ rfl (by unfold sR aMi aMa; omega) (fun hc6 => ?_) (fun hc6 => ?_)
        · have hc6 : (1 : Int) ≠ 0 := hc6
          refine sP 6 (g1 := (22, [some (.ref 53), some (sI ((a : Int))), some (sI ((s : Int))), some (sI v), some (sI 0), some (sI 1), some (sI 0), none, none, none, none], [], h)) rfl ?_
          exact r4
        · have hc6 : ¬ ((1 : Int) ≠ 0) := hc6
          omega
  · have r5 := fun X8 X9 X10 => j3 X8 X9 X10 (some (sI (if fwC (fun C => decide (pSeem (gD (uq (fun j => hI h 58 (7 + j)) a s n) a (uq (fun j => hI h 58 (7 + j)) a s n).length 0 C (fun j => hI h 58 (7 + j))) n kd a s = v)) (uq (fun j => hI h 58 (7 + j)) a s n).length (10 ^ (uq (fun j => hI h 58 (7 + j)) a s n).length) = 1000000 then -9 else fwC (fun C => decide (pSeem (gD (uq (fun j => hI h 58 (7 + j)) a s n) a (uq (fun j => hI h 58 (7 + j)) a s n).length 0 C (fun j => hI h 58 (7 + j))) n kd a s = v)) (uq (fun j => hI h 58 (7 + j)) a s n).length (10 ^ (uq (fun j => hI h 58 (7 + j)) a s n).length))), g) r2
    refine sP 4 (g1 := (56, [some (.ref 53), some (sI ((a : Int))), some (sI ((s : Int))), some (sI v), some (sI ((((uq (fun j => hI h 58 (7 + j)) a s n).length : Nat) : Int))), some (sI (((10 ^ (uq (fun j => hI h 58 (7 + j)) a s n).length : Nat) : Int))), some (sI 1000000), some (sI 0), none, none, none], [], g)) rfl ?_
    exact r5 _ _ _
end MEETN

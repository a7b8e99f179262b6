/-! meetings, the class -/
def fdS (B L : Nat → Nat) (kd lk gr : Nat) (fi : Bool) (D : Nat → Nat → Prop) : Prop := (∀ g, L g ≤ 100) ∧ (∀ g, g < 55 → L g < 100 → ∃ f made : Nat, f < 55 ∧ B f < 100 ∧ lk ≤ made ∧ made ≤ gr ∧ pFo kd (f : Int) (made : Int) fi = (g : Int) ∧ L g = B f + (if made = lk then 0 else 1)) ∧ ∀ f made g : Nat, f < 55 → B f < 100 → lk ≤ made → made ≤ gr → D f made → pFo kd (f : Int) (made : Int) fi = (g : Int) → g < 55 → L g ≤ B f + (if made = lk then 0 else 1)
def fdD (F M f made : Nat) : Prop := f < F ∨ (f = F ∧ made < M)
theorem fd_step {B L : Nat → Nat} {kd lk gr F M N c : Nat} {fi : Bool} (h : fdS B L kd lk gr fi (fdD F M)) (hF : F < 55) (hB : B F < 100) (h1 : lk ≤ M) (h2 : M ≤ gr) (hN : pFo kd (F : Int) (M : Int) fi = (N : Int)) (hc : c = if M = lk then 0 else 1) : fdS B (fun g => if g = N ∧ N < 55 then min (L g) (B F + c) else L g) kd lk gr fi (fdD F (M + 1)) := by
  obtain ⟨a1, a2, a3⟩ := h
  refine ⟨fun g => ?_, fun g hg hl => ?_, fun f made g f1 f2 f3 f4 hD hp hg => ?_⟩
  · show (if g = N ∧ N < 55 then min (L g) (B F + c) else L g) ≤ 100
    have := a1 g
    split <;> omega
  · have hl : (if g = N ∧ N < 55 then min (L g) (B F + c) else L g) < 100 := hl
    show ∃ f made : Nat, f < 55 ∧ B f < 100 ∧ lk ≤ made ∧ made ≤ gr ∧ pFo kd (f : Int) (made : Int) fi = (g : Int) ∧ (if g = N ∧ N < 55 then min (L g) (B F + c) else L g) = B f + (if made = lk then 0 else 1)
    by_cases q : g = N ∧ N < 55
    · rw [if_pos q] at hl ⊢
      by_cases w : L g ≤ B F + c
      · rw [Nat.min_eq_left w] at hl ⊢
        exact a2 g hg hl
      · rw [Nat.min_eq_right (by omega)]
        exact ⟨F, M, hF, hB, h1, h2, by rw [q.1]; exact hN, by rw [hc]⟩
    · rw [if_neg q] at hl ⊢
      exact a2 g hg hl
  · show (if g = N ∧ N < 55 then min (L g) (B F + c) else L g) ≤ _
    by_cases e : f = F ∧ made = M
    · obtain ⟨e1, e2⟩ := e
      subst e1 e2
      rw [hN] at hp
      rw [if_pos (by omega), ← hc]
      omega
    · have k := a3 f made g f1 f2 f3 f4 (by
        unfold fdD at hD ⊢
        omega) hp hg
      split <;> omega
theorem z18 {j : Nat} (hj : j < 55) : zCell 18 j 0 100 = true := (show ∀ j, j < 55 → zCell 18 j 0 100 = true by decide +kernel) j hj
theorem z18i {j : Nat} (hj : j < 55) : zIn 18 j 0 100 = true := (show ∀ j, j < 55 → zIn 18 j 0 100 = true by decide +kernel) j hj
theorem z19 {j : Nat} (hj : j < 55) : zCell 19 j 0 100 = true := (show ∀ j, j < 55 → zCell 19 j 0 100 = true by decide +kernel) j hj
def mtL (b g : mH) (L : Nat → Nat) : Prop := aHp g ∧ (∀ p m, p ≠ 18 → aSlot g p m = aSlot b p m) ∧ ∀ f, f < 55 → hI g 18 f = (L f : Int)
section MEETX
variable {sc : List Int32} {d : Nat} {b : mH}
theorem fFiI {kd lk gr F : Nat} {fi : Bool} {B : Nat → Nat} (hk : kd < 6) (hg9 : gr ≤ 9) (hF : F < 55) (b_b : ∀ f, f < 55 → hI b 19 f = (B f : Int)) (hB : B F < 100) : ∀ (c M : Nat) (g : mH) (L : Nat → Nat) (X7 X8 : Option Value), M + c = gr + 1 → lk ≤ M → mtL b g L → fdS B L kd lk gr fi (fdD F M) → ∃ (g1 : mH) (L1 : Nat → Nat) (Y6 Y7 Y8 : Option Value), (∀ q, nRn sc (d + 2) (mMT mMe90) (mMC mMe90) (67, [some (.ref 17), some (sI ((kd : Int))), some (sI ((lk : Int))), some (sI ((if fi = true then 1 else 0))), some (sI ((gr : Int))), some (sI ((F : Int))), Y6, Y7, Y8], [], g1) q → nRn sc (d + 2) (mMT mMe90) (mMC mMe90) (25, [some (.ref 17), some (sI ((kd : Int))), some (sI ((lk : Int))), some (sI ((if fi = true then 1 else 0))), some (sI ((gr : Int))), some (sI ((F : Int))), some (sI ((M : Int))), X7, X8], [], g) q) ∧ mtL b g1 L1 ∧ fdS B L1 kd lk gr fi (fdD (F + 1) 0) := by
  intro c
  induction c with
  | zero =>
    intro M g L X7 X8 hM hlk hC hS
    obtain ⟨hg, f_g, l_g⟩ := id hC
    refine ⟨g, L, some (sI (M : Int)), X7, X8, fun q hq => ?_, hC, hS.1, hS.2.1, fun f made y f1 f2 f3 f4 hD => hS.2.2 f made y f1 f2 f3 f4 (by unfold fdD at hD ⊢; omega)⟩
    refine sP 2 (g1 := (27, [some (.ref 17), some (sI ((kd : Int))), some (sI ((lk : Int))), some (sI ((if fi = true then 1 else 0))), some (sI ((gr : Int))), some (sI ((F : Int))), some (sI ((M : Int))), X7, X8], [sI ((gr : Int)), sI ((M : Int))], g)) rfl ?_
    refine s_icmp (q := .gt) (a := (M : Int)) (b := (gr : Int)) rfl ⟨_, rfl⟩ rfl (by unfold sR aMi aMa; omega) (by unfold sR aMi aMa; omega) (fun hc1 => ?_) (fun hc1 => ?_)
    · have hc1 : (((gr : Int)) : Int) < ((M : Int)) := hc1
      exact hq
    · have hc1 : ¬ ((((gr : Int)) : Int) < ((M : Int))) := hc1
      omega
  | succ c ih =>
    intro M g L X7 X8 hM hlk hC hS
    obtain ⟨hg, f_g, l_g⟩ := id hC
    have b_g : ∀ f, f < 55 → hI g 19 f = (B f : Int) := fun f hf => by rw [hI_cg (f_g 19 f (by omega))]; exact b_b f hf
    have pr := pFo_rg (kd := kd) (f := (F : Int)) (l := (M : Int)) (m := (F : Int)) (b := fi) (by omega) (by omega) (by omega) (by omega) (by omega)
    obtain ⟨N, eN⟩ : ∃ N : Nat, pFo kd (F : Int) (M : Int) fi = (N : Int) := ⟨(pFo kd (F : Int) (M : Int) fi).toNat, by omega⟩
    have ef := fFold (sc := sc) (d := d) (h := g) (kd := kd) (f := (F : Int)) (l := (M : Int)) (first := fi) hk (by omega) (by omega) (by omega) (by omega)
    rw [eN] at ef pr
    have lN : L N ≤ 100 := hS.1 N
    have key : ∀ c, c = (if M = lk then 0 else 1) → fdS B (fun y => if y = N ∧ N < 55 then min (L y) (B F + c) else L y) kd lk gr fi (fdD F (M + 1)) := fun c hc => fd_step hS hF hB hlk (by omega) eN hc
    by_cases eM : M = lk
    · have k := key 0 (by rw [if_pos eM])
      by_cases n55 : N < 55
      · obtain ⟨g1, eg1⟩ : ∃ gz, gz = hset g 18 N (sI ((min (L N) (B F + 0) : Nat) : Int)) := ⟨_, rfl⟩
        have sg1 : ∀ xa xm, aSlot g1 xa xm = if xa = 18 ∧ xm = N then some (sI ((min (L N) (B F + 0) : Nat) : Int)) else aSlot g xa xm := fun xa xm => by rw [eg1]; exact hset_slot hg (show sTg 18 = some (50, 55) from rfl) (by omega) xa xm
        have hg1 : aHp g1 := by rw [eg1]; exact hset_ii hg (z18i n55) (by omega) (by omega) (by unfold sR aMi aMa; omega)
        have em := fMin (sc := sc) (d := d + 1) (h := g) (a := (L N : Int)) (b := (B F : Int) + 0) (by omega) (by omega) (by omega) (by omega)
        rw [show min (L N : Int) ((B F : Int) + 0) = ((min (L N) (B F + 0) : Nat) : Int) by omega] at em
        have hC1 : mtL b g1 (fun y => if y = N ∧ N < 55 then min (L y) (B F + 0) else L y) := by
          refine ⟨hg1, fun p m w => by rw [sg1, if_neg (by omega)]; exact f_g p m w, fun y hy => ?_⟩
          show hI g1 18 y = ((if y = N ∧ N < 55 then min (L y) (B F + 0) else L y : Nat) : Int)
          by_cases e : y = N
          · rw [if_pos ⟨e, n55⟩, e]
            exact hI_si (by rw [sg1, if_pos ⟨rfl, rfl⟩]) (by unfold sR aMi aMa; omega)
          · rw [if_neg (fun q => e q.1), hI_cg (show aSlot g1 18 y = aSlot g 18 y by rw [sg1, if_neg (by omega)])]
            exact l_g y hy
        obtain ⟨g2, L2, Y6, Y7, Y8, i1, i2, i3⟩ := ih (M + 1) g1 _ (some (sI (N : Int))) (some (sI ((B F : Int) + 0))) (by omega) (by omega) hC1 k
        refine ⟨g2, L2, Y6, Y7, Y8, fun q hq => ?_, i2, i3⟩
        refine sP 2 (g1 := (27, [some (.ref 17), some (sI ((kd : Int))), some (sI ((lk : Int))), some (sI ((if fi = true then 1 else 0))), some (sI ((gr : Int))), some (sI ((F : Int))), some (sI ((M : Int))), X7, X8], [sI ((gr : Int)), sI ((M : Int))], g)) rfl ?_
        refine s_icmp (q := .gt) (a := (M : Int)) (b := (gr : Int)) rfl ⟨_, rfl⟩ rfl (by unfold sR aMi aMa; omega) (by unfold sR aMi aMa; omega) (fun hc1 => ?_) (fun hc1 => ?_)
        · have hc1 : (((gr : Int)) : Int) < ((M : Int)) := hc1
          omega
        · have hc1 : ¬ ((((gr : Int)) : Int) < ((M : Int))) := hc1
          refine sP 1 (g1 := (29, [some (.ref 17), some (sI ((kd : Int))), some (sI ((lk : Int))), some (sI ((if fi = true then 1 else 0))), some (sI ((gr : Int))), some (sI ((F : Int))), some (sI ((M : Int))), X7, X8], [.ref 17], g)) rfl ?_
          refine s_get (a := 17) (j := 1) hg rfl ⟨_, rfl⟩ rfl rfl rfl (v := .ref 19) (hR_ok hg (by decide +kernel)) ?_
          refine sP 1 (g1 := (31, [some (.ref 17), some (sI ((kd : Int))), some (sI ((lk : Int))), some (sI ((if fi = true then 1 else 0))), some (sI ((gr : Int))), some (sI ((F : Int))), some (sI ((M : Int))), X7, X8], [sI ((F : Int)), .ref 19], g)) rfl ?_
          refine s_iald (a := 19) (n := 55) (j := (F : Int)) hg rfl rfl rfl (by omega) (by omega) (by decide) (v := sI ((B F : Int))) (by rw [Int.toNat_natCast]; have q := hI_ok hg (z19 (show F < 55 by omega)); rw [b_g _ (by omega)] at q; exact q) ?_
          refine sP 1 (g1 := (33, [some (.ref 17), some (sI ((kd : Int))), some (sI ((lk : Int))), some (sI ((if fi = true then 1 else 0))), some (sI ((gr : Int))), some (sI ((F : Int))), some (sI ((M : Int))), X7, X8], [sI 100, sI ((B F : Int))], g)) rfl ?_
          refine s_icmp (q := .ge) (a := (B F : Int)) (b := 100) rfl ⟨_, rfl⟩ rfl (by unfold sR aMi aMa; omega) (by unfold sR aMi aMa; omega) (fun hc2 => ?_) (fun hc2 => ?_)
          · have hc2 : (100 : Int) ≤ ((B F : Int)) := hc2
            omega
          · have hc2 : ¬ ((100 : Int) ≤ ((B F : Int))) := hc2
            refine sP 4 (g1 := (38, [some (.ref 17), some (sI ((kd : Int))), some (sI ((lk : Int))), some (sI ((if fi = true then 1 else 0))), some (sI ((gr : Int))), some (sI ((F : Int))), some (sI ((M : Int))), X7, X8], [sI ((if fi = true then 1 else 0)), sI ((M : Int)), sI ((F : Int)), sI ((kd : Int))], g)) rfl ?_
            refine s_call (k := 41) (args := [sI ((kd : Int)), sI ((F : Int)), sI ((M : Int)), sI ((if fi = true then 1 else 0))]) (st := []) (v := some (sI ((N : Int)))) (h1 := g) rfl ⟨rfl, rfl⟩ rfl rfl rfl rfl rfl rfl ef ?_
            refine sP 2 (g1 := (41, [some (.ref 17), some (sI ((kd : Int))), some (sI ((lk : Int))), some (sI ((if fi = true then 1 else 0))), some (sI ((gr : Int))), some (sI ((F : Int))), some (sI ((M : Int))), some (sI ((N : Int))), X8], [.ref 17], g)) rfl ?_
            refine s_get (a := 17) (j := 1) hg rfl ⟨_, rfl⟩ rfl rfl rfl (v := .ref 19) (hR_ok hg (by decide +kernel)) ?_
            refine sP 1 (g1 := (43, [some (.ref 17), some (sI ((kd : Int))), some (sI ((lk : Int))), some (sI ((if fi = true then 1 else 0))), some (sI ((gr : Int))), some (sI ((F : Int))), some (sI ((M : Int))), some (sI ((N : Int))), X8], [sI ((F : Int)), .ref 19], g)) rfl ?_
            refine s_iald (a := 19) (n := 55) (j := (F : Int)) hg rfl rfl rfl (by omega) (by omega) (by decide) (v := sI ((B F : Int))) (by rw [Int.toNat_natCast]; have q := hI_ok hg (z19 (show F < 55 by omega)); rw [b_g _ (by omega)] at q; exact q) ?_
            refine sP 2 (g1 := (46, [some (.ref 17), some (sI ((kd : Int))), some (sI ((lk : Int))), some (sI ((if fi = true then 1 else 0))), some (sI ((gr : Int))), some (sI ((F : Int))), some (sI ((M : Int))), some (sI ((N : Int))), X8], [sI ((lk : Int)), sI ((M : Int)), sI ((B F : Int))], g)) rfl ?_
            refine s_icmp (q := .ne) (a := (M : Int)) (b := (lk : Int)) rfl ⟨_, rfl⟩ rfl (by unfold sR aMi aMa; omega) (by unfold sR aMi aMa; omega) (fun hc3 => ?_) (fun hc3 => ?_)
            · have hc3 : (((M : Int)) : Int) ≠ ((lk : Int)) := hc3
              omega
            · have hc3 : ¬ ((((M : Int)) : Int) ≠ ((lk : Int))) := hc3
              refine sP 2 (g1 := (50, [some (.ref 17), some (sI ((kd : Int))), some (sI ((lk : Int))), some (sI ((if fi = true then 1 else 0))), some (sI ((gr : Int))), some (sI ((F : Int))), some (sI ((M : Int))), some (sI ((N : Int))), X8], [sI 0, sI ((B F : Int))], g)) rfl ?_
              refine s_add (a := (B F : Int)) (b := 0) rfl rfl ?_
              refine sP 3 (g1 := (54, [some (.ref 17), some (sI ((kd : Int))), some (sI ((lk : Int))), some (sI ((if fi = true then 1 else 0))), some (sI ((gr : Int))), some (sI ((F : Int))), some (sI ((M : Int))), some (sI ((N : Int))), some (sI (((B F : Int)) + 0))], [sI 55, sI ((N : Int))], g)) rfl ?_
              refine s_icmp (q := .ge) (a := (N : Int)) (b := 55) rfl ⟨_, rfl⟩ rfl (by unfold sR aMi aMa; omega) (by unfold sR aMi aMa; omega) (fun hc4 => ?_) (fun hc4 => ?_)
              · have hc4 : (55 : Int) ≤ ((N : Int)) := hc4
                omega
              · have hc4 : ¬ ((55 : Int) ≤ ((N : Int))) := hc4
                refine sP 1 (g1 := (56, [some (.ref 17), some (sI ((kd : Int))), some (sI ((lk : Int))), some (sI ((if fi = true then 1 else 0))), some (sI ((gr : Int))), some (sI ((F : Int))), some (sI ((M : Int))), some (sI ((N : Int))), some (sI (((B F : Int)) + 0))], [.ref 17], g)) rfl ?_
                refine s_get (a := 17) (j := 0) hg rfl ⟨_, rfl⟩ rfl rfl rfl (v := .ref 18) (hR_ok hg (by decide +kernel)) ?_
                refine sP 2 (g1 := (59, [some (.ref 17), some (sI ((kd : Int))), some (sI ((lk : Int))), some (sI ((if fi = true then 1 else 0))), some (sI ((gr : Int))), some (sI ((F : Int))), some (sI ((M : Int))), some (sI ((N : Int))), some (sI (((B F : Int)) + 0))], [.ref 17, sI ((N : Int)), .ref 18], g)) rfl ?_
                refine s_get (a := 17) (j := 0) hg rfl ⟨_, rfl⟩ rfl rfl rfl (v := .ref 18) (hR_ok hg (by decide +kernel)) ?_
                refine sP 1 (g1 := (61, [some (.ref 17), some (sI ((kd : Int))), some (sI ((lk : Int))), some (sI ((if fi = true then 1 else 0))), some (sI ((gr : Int))), some (sI ((F : Int))), some (sI ((M : Int))), some (sI ((N : Int))), some (sI (((B F : Int)) + 0))], [sI ((N : Int)), .ref 18, sI ((N : Int)), .ref 18], g)) rfl ?_
                refine s_iald (a := 18) (n := 55) (j := (N : Int)) hg rfl rfl rfl (by omega) (by omega) (by decide) (v := sI ((L N : Int))) (by rw [Int.toNat_natCast]; have q := hI_ok hg (z18 (show N < 55 by omega)); rw [l_g _ (by omega)] at q; exact q) ?_
                refine sP 1 (g1 := (63, [some (.ref 17), some (sI ((kd : Int))), some (sI ((lk : Int))), some (sI ((if fi = true then 1 else 0))), some (sI ((gr : Int))), some (sI ((F : Int))), some (sI ((M : Int))), some (sI ((N : Int))), some (sI (((B F : Int)) + 0))], [sI (((B F : Int)) + 0), sI ((L N : Int)), sI ((N : Int)), .ref 18], g)) rfl ?_
                refine s_call (k := 43) (args := [sI ((L N : Int)), sI (((B F : Int)) + 0)]) (st := [sI ((N : Int)), .ref 18]) (v := some (sI (((min (L N) (B F + 0) : Nat) : Int)))) (h1 := g) rfl ⟨rfl, rfl⟩ rfl rfl rfl rfl rfl rfl em ?_
                refine s_iast (a := 18) (n := 55) (j := (N : Int)) hg rfl rfl (show sTg 18 = some (50, 55) from rfl) (by omega) (by omega) (by decide) ?_
                rw [show ((N : Int) : Int).toNat = N by omega]
                rw [← eg1]
                refine s_inc (a := (M : Int)) (n := 1) (k := 6) rfl rfl rfl ?_
                refine sP 1 (g1 := (25, [some (.ref 17), some (sI ((kd : Int))), some (sI ((lk : Int))), some (sI ((if fi = true then 1 else 0))), some (sI ((gr : Int))), some (sI ((F : Int))), some (sI (((M : Int)) + 1)), some (sI ((N : Int))), some (sI (((B F : Int)) + 0))], [], g1)) rfl ?_
                rw [show ((M : Int) + 1) = ((M + 1 : Nat) : Int) by omega]
                exact i1 q hq
      · have eL : (fun y => if y = N ∧ N < 55 then min (L y) (B F + 0) else L y) = L := funext (fun y => if_neg (fun q => n55 q.2))
        rw [eL] at k
        obtain ⟨g2, L2, Y6, Y7, Y8, i1, i2, i3⟩ := ih (M + 1) g L (some (sI (N : Int))) (some (sI ((B F : Int) + 0))) (by omega) (by omega) hC k
        refine ⟨g2, L2, Y6, Y7, Y8, fun q hq => ?_, i2, i3⟩
        refine sP 2 (g1 := (27, [some (.ref 17), some (sI ((kd : Int))), some (sI ((lk : Int))), some (sI ((if fi = true then 1 else 0))), some (sI ((gr : Int))), some (sI ((F : Int))), some (sI ((M : Int))), X7, X8], [sI ((gr : Int)), sI ((M : Int))], g)) rfl ?_
        refine s_icmp (q := .gt) (a := (M : Int)) (b := (gr : Int)) rfl ⟨_, rfl⟩ rfl (by unfold sR aMi aMa; omega) (by unfold sR aMi aMa; omega) (fun hc1 => ?_) (fun hc1 => ?_)
        · have hc1 : (((gr : Int)) : Int) < ((M : Int)) := hc1
          omega
        · have hc1 : ¬ ((((gr : Int)) : Int) < ((M : Int))) := hc1
          refine sP 1 (g1 := (29, [some (.ref 17), some (sI ((kd : Int))), some (sI ((lk : Int))), some (sI ((if fi = true then 1 else 0))), some (sI ((gr : Int))), some (sI ((F : Int))), some (sI ((M : Int))), X7, X8], [.ref 17], g)) rfl ?_
          refine s_get (a := 17) (j := 1) hg rfl ⟨_, rfl⟩ rfl rfl rfl (v := .ref 19) (hR_ok hg (by decide +kernel)) ?_
          refine sP 1 (g1 := (31, [some (.ref 17), some (sI ((kd : Int))), some (sI ((lk : Int))), some (sI ((if fi = true then 1 else 0))), some (sI ((gr : Int))), some (sI ((F : Int))), some (sI ((M : Int))), X7, X8], [sI ((F : Int)), .ref 19], g)) rfl ?_
          refine s_iald (a := 19) (n := 55) (j := (F : Int)) hg rfl rfl rfl (by omega) (by omega) (by decide) (v := sI ((B F : Int))) (by rw [Int.toNat_natCast]; have q := hI_ok hg (z19 (show F < 55 by omega)); rw [b_g _ (by omega)] at q; exact q) ?_
          refine sP 1 (g1 := (33, [some (.ref 17), some (sI ((kd : Int))), some (sI ((lk : Int))), some (sI ((if fi = true then 1 else 0))), some (sI ((gr : Int))), some (sI ((F : Int))), some (sI ((M : Int))), X7, X8], [sI 100, sI ((B F : Int))], g)) rfl ?_
          refine s_icmp (q := .ge) (a := (B F : Int)) (b := 100) rfl ⟨_, rfl⟩ rfl (by unfold sR aMi aMa; omega) (by unfold sR aMi aMa; omega) (fun hc2 => ?_) (fun hc2 => ?_)
          · have hc2 : (100 : Int) ≤ ((B F : Int)) := hc2
            omega
          · have hc2 : ¬ ((100 : Int) ≤ ((B F : Int))) := hc2
            refine sP 4 (g1 := (38, [some (.ref 17), some (sI ((kd : Int))), some (sI ((lk : Int))), some (sI ((if fi = true then 1 else 0))), some (sI ((gr : Int))), some (sI ((F : Int))), some (sI ((M : Int))), X7, X8], [sI ((if fi = true then 1 else 0)), sI ((M : Int)), sI ((F : Int)), sI ((kd : Int))], g)) rfl ?_
            refine s_call (k := 41) (args := [sI ((kd : Int)), sI ((F : Int)), sI ((M : Int)), sI ((if fi = true then 1 else 0))]) (st := []) (v := some (sI ((N : Int)))) (h1 := g) rfl ⟨rfl, rfl⟩ rfl rfl rfl rfl rfl rfl ef ?_
            refine sP 2 (g1 := (41, [some (.ref 17), some (sI ((kd : Int))), some (sI ((lk : Int))), some (sI ((if fi = true then 1 else 0))), some (sI ((gr : Int))), some (sI ((F : Int))), some (sI ((M : Int))), some (sI ((N : Int))), X8], [.ref 17], g)) rfl ?_
            refine s_get (a := 17) (j := 1) hg rfl ⟨_, rfl⟩ rfl rfl rfl (v := .ref 19) (hR_ok hg (by decide +kernel)) ?_
            refine sP 1 (g1 := (43, [some (.ref 17), some (sI ((kd : Int))), some (sI ((lk : Int))), some (sI ((if fi = true then 1 else 0))), some (sI ((gr : Int))), some (sI ((F : Int))), some (sI ((M : Int))), some (sI ((N : Int))), X8], [sI ((F : Int)), .ref 19], g)) rfl ?_
            refine s_iald (a := 19) (n := 55) (j := (F : Int)) hg rfl rfl rfl (by omega) (by omega) (by decide) (v := sI ((B F : Int))) (by rw [Int.toNat_natCast]; have q := hI_ok hg (z19 (show F < 55 by omega)); rw [b_g _ (by omega)] at q; exact q) ?_
            refine sP 2 (g1 := (46, [some (.ref 17), some (sI ((kd : Int))), some (sI ((lk : Int))), some (sI ((if fi = true then 1 else 0))), some (sI ((gr : Int))), some (sI ((F : Int))), some (sI ((M : Int))), some (sI ((N : Int))), X8], [sI ((lk : Int)), sI ((M : Int)), sI ((B F : Int))], g)) rfl ?_
            refine s_icmp (q := .ne) (a := (M : Int)) (b := (lk : Int)) rfl ⟨_, rfl⟩ rfl (by unfold sR aMi aMa; omega) (by unfold sR aMi aMa; omega) (fun hc3 => ?_) (fun hc3 => ?_)
            · have hc3 : (((M : Int)) : Int) ≠ ((lk : Int)) := hc3
              omega
            · have hc3 : ¬ ((((M : Int)) : Int) ≠ ((lk : Int))) := hc3
              refine sP 2 (g1 := (50, [some (.ref 17), some (sI ((kd : Int))), some (sI ((lk : Int))), some (sI ((if fi = true then 1 else 0))), some (sI ((gr : Int))), some (sI ((F : Int))), some (sI ((M : Int))), some (sI ((N : Int))), X8], [sI 0, sI ((B F : Int))], g)) rfl ?_
              refine s_add (a := (B F : Int)) (b := 0) rfl rfl ?_
              refine sP 3 (g1 := (54, [some (.ref 17), some (sI ((kd : Int))), some (sI ((lk : Int))), some (sI ((if fi = true then 1 else 0))), some (sI ((gr : Int))), some (sI ((F : Int))), some (sI ((M : Int))), some (sI ((N : Int))), some (sI (((B F : Int)) + 0))], [sI 55, sI ((N : Int))], g)) rfl ?_
              refine s_icmp (q := .ge) (a := (N : Int)) (b := 55) rfl ⟨_, rfl⟩ rfl (by unfold sR aMi aMa; omega) (by unfold sR aMi aMa; omega) (fun hc4 => ?_) (fun hc4 => ?_)
              · have hc4 : (55 : Int) ≤ ((N : Int)) := hc4
                refine s_inc (a := (M : Int)) (n := 1) (k := 6) rfl rfl rfl ?_
                refine sP 1 (g1 := (25, [some (.ref 17), some (sI ((kd : Int))), some (sI ((lk : Int))), some (sI ((if fi = true then 1 else 0))), some (sI ((gr : Int))), some (sI ((F : Int))), some (sI (((M : Int)) + 1)), some (sI ((N : Int))), some (sI (((B F : Int)) + 0))], [], g)) rfl ?_
                rw [show ((M : Int) + 1) = ((M + 1 : Nat) : Int) by omega]
                exact i1 q hq
              · have hc4 : ¬ ((55 : Int) ≤ ((N : Int))) := hc4
                omega
    · have k := key 1 (by rw [if_neg eM])
      by_cases n55 : N < 55
      · obtain ⟨g1, eg1⟩ : ∃ gz, gz = hset g 18 N (sI ((min (L N) (B F + 1) : Nat) : Int)) := ⟨_, rfl⟩
        have sg1 : ∀ xa xm, aSlot g1 xa xm = if xa = 18 ∧ xm = N then some (sI ((min (L N) (B F + 1) : Nat) : Int)) else aSlot g xa xm := fun xa xm => by rw [eg1]; exact hset_slot hg (show sTg 18 = some (50, 55) from rfl) (by omega) xa xm
        have hg1 : aHp g1 := by rw [eg1]; exact hset_ii hg (z18i n55) (by omega) (by omega) (by unfold sR aMi aMa; omega)
        have em := fMin (sc := sc) (d := d + 1) (h := g) (a := (L N : Int)) (b := (B F : Int) + 1) (by omega) (by omega) (by omega) (by omega)
        rw [show min (L N : Int) ((B F : Int) + 1) = ((min (L N) (B F + 1) : Nat) : Int) by omega] at em
        have hC1 : mtL b g1 (fun y => if y = N ∧ N < 55 then min (L y) (B F + 1) else L y) := by
          refine ⟨hg1, fun p m w => by rw [sg1, if_neg (by omega)]; exact f_g p m w, fun y hy => ?_⟩
          show hI g1 18 y = ((if y = N ∧ N < 55 then min (L y) (B F + 1) else L y : Nat) : Int)
          by_cases e : y = N
          · rw [if_pos ⟨e, n55⟩, e]
            exact hI_si (by rw [sg1, if_pos ⟨rfl, rfl⟩]) (by unfold sR aMi aMa; omega)
          · rw [if_neg (fun q => e q.1), hI_cg (show aSlot g1 18 y = aSlot g 18 y by rw [sg1, if_neg (by omega)])]
            exact l_g y hy
        obtain ⟨g2, L2, Y6, Y7, Y8, i1, i2, i3⟩ := ih (M + 1) g1 _ (some (sI (N : Int))) (some (sI ((B F : Int) + 1))) (by omega) (by omega) hC1 k
        refine ⟨g2, L2, Y6, Y7, Y8, fun q hq => ?_, i2, i3⟩
        refine sP 2 (g1 := (27, [some (.ref 17), some (sI ((kd : Int))), some (sI ((lk : Int))), some (sI ((if fi = true then 1 else 0))), some (sI ((gr : Int))), some (sI ((F : Int))), some (sI ((M : Int))), X7, X8], [sI ((gr : Int)), sI ((M : Int))], g)) rfl ?_
        refine s_icmp (q := .gt) (a := (M : Int)) (b := (gr : Int)) rfl ⟨_, rfl⟩ rfl (by unfold sR aMi aMa; omega) (by unfold sR aMi aMa; omega) (fun hc1 => ?_) (fun hc1 => ?_)
        · have hc1 : (((gr : Int)) : Int) < ((M : Int)) := hc1
          omega
        · have hc1 : ¬ ((((gr : Int)) : Int) < ((M : Int))) := hc1
          refine sP 1 (g1 := (29, [some (.ref 17), some (sI ((kd : Int))), some (sI ((lk : Int))), some (sI ((if fi = true then 1 else 0))), some (sI ((gr : Int))), some (sI ((F : Int))), some (sI ((M : Int))), X7, X8], [.ref 17], g)) rfl ?_
          refine s_get (a := 17) (j := 1) hg rfl ⟨_, rfl⟩ rfl rfl rfl (v := .ref 19) (hR_ok hg (by decide +kernel)) ?_
          refine sP 1 (g1 := (31, [some (.ref 17), some (sI ((kd : Int))), some (sI ((lk : Int))), some (sI ((if fi = true then 1 else 0))), some (sI ((gr : Int))), some (sI ((F : Int))), some (sI ((M : Int))), X7, X8], [sI ((F : Int)), .ref 19], g)) rfl ?_
          refine s_iald (a := 19) (n := 55) (j := (F : Int)) hg rfl rfl rfl (by omega) (by omega) (by decide) (v := sI ((B F : Int))) (by rw [Int.toNat_natCast]; have q := hI_ok hg (z19 (show F < 55 by omega)); rw [b_g _ (by omega)] at q; exact q) ?_
          refine sP 1 (g1 := (33, [some (.ref 17), some (sI ((kd : Int))), some (sI ((lk : Int))), some (sI ((if fi = true then 1 else 0))), some (sI ((gr : Int))), some (sI ((F : Int))), some (sI ((M : Int))), X7, X8], [sI 100, sI ((B F : Int))], g)) rfl ?_
          refine s_icmp (q := .ge) (a := (B F : Int)) (b := 100) rfl ⟨_, rfl⟩ rfl (by unfold sR aMi aMa; omega) (by unfold sR aMi aMa; omega) (fun hc2 => ?_) (fun hc2 => ?_)
          · have hc2 : (100 : Int) ≤ ((B F : Int)) := hc2
            omega
          · have hc2 : ¬ ((100 : Int) ≤ ((B F : Int))) := hc2
            refine sP 4 (g1 := (38, [some (.ref 17), some (sI ((kd : Int))), some (sI ((lk : Int))), some (sI ((if fi = true then 1 else 0))), some (sI ((gr : Int))), some (sI ((F : Int))), some (sI ((M : Int))), X7, X8], [sI ((if fi = true then 1 else 0)), sI ((M : Int)), sI ((F : Int)), sI ((kd : Int))], g)) rfl ?_
            refine s_call (k := 41) (args := [sI ((kd : Int)), sI ((F : Int)), sI ((M : Int)), sI ((if fi = true then 1 else 0))]) (st := []) (v := some (sI ((N : Int)))) (h1 := g) rfl ⟨rfl, rfl⟩ rfl rfl rfl rfl rfl rfl ef ?_
            refine sP 2 (g1 := (41, [some (.ref 17), some (sI ((kd : Int))), some (sI ((lk : Int))), some (sI ((if fi = true then 1 else 0))), some (sI ((gr : Int))), some (sI ((F : Int))), some (sI ((M : Int))), some (sI ((N : Int))), X8], [.ref 17], g)) rfl ?_
            refine s_get (a := 17) (j := 1) hg rfl ⟨_, rfl⟩ rfl rfl rfl (v := .ref 19) (hR_ok hg (by decide +kernel)) ?_
            refine sP 1 (g1 := (43, [some (.ref 17), some (sI ((kd : Int))), some (sI ((lk : Int))), some (sI ((if fi = true then 1 else 0))), some (sI ((gr : Int))), some (sI ((F : Int))), some (sI ((M : Int))), some (sI ((N : Int))), X8], [sI ((F : Int)), .ref 19], g)) rfl ?_
            refine s_iald (a := 19) (n := 55) (j := (F : Int)) hg rfl rfl rfl (by omega) (by omega) (by decide) (v := sI ((B F : Int))) (by rw [Int.toNat_natCast]; have q := hI_ok hg (z19 (show F < 55 by omega)); rw [b_g _ (by omega)] at q; exact q) ?_
            refine sP 2 (g1 := (46, [some (.ref 17), some (sI ((kd : Int))), some (sI ((lk : Int))), some (sI ((if fi = true then 1 else 0))), some (sI ((gr : Int))), some (sI ((F : Int))), some (sI ((M : Int))), some (sI ((N : Int))), X8], [sI ((lk : Int)), sI ((M : Int)), sI ((B F : Int))], g)) rfl ?_
            refine s_icmp (q := .ne) (a := (M : Int)) (b := (lk : Int)) rfl ⟨_, rfl⟩ rfl (by unfold sR aMi aMa; omega) (by unfold sR aMi aMa; omega) (fun hc3 => ?_) (fun hc3 => ?_)
            · have hc3 : (((M : Int)) : Int) ≠ ((lk : Int)) := hc3
              refine sP 1 (g1 := (50, [some (.ref 17), some (sI ((kd : Int))), some (sI ((lk : Int))), some (sI ((if fi = true then 1 else 0))), some (sI ((gr : Int))), some (sI ((F : Int))), some (sI ((M : Int))), some (sI ((N : Int))), X8], [sI 1, sI ((B F : Int))], g)) rfl ?_
              refine s_add (a := (B F : Int)) (b := 1) rfl rfl ?_
              refine sP 3 (g1 := (54, [some (.ref 17), some (sI ((kd : Int))), some (sI ((lk : Int))), some (sI ((if fi = true then 1 else 0))), some (sI ((gr : Int))), some (sI ((F : Int))), some (sI ((M : Int))), some (sI ((N : Int))), some (sI (((B F : Int)) + 1))], [sI 55, sI ((N : Int))], g)) rfl ?_
              refine s_icmp (q := .ge) (a := (N : Int)) (b := 55) rfl ⟨_, rfl⟩ rfl (by unfold sR aMi aMa; omega) (by unfold sR aMi aMa; omega) (fun hc4 => ?_) (fun hc4 => ?_)
              · have hc4 : (55 : Int) ≤ ((N : Int)) := hc4
                omega
              · have hc4 : ¬ ((55 : Int) ≤ ((N : Int))) := hc4
                refine sP 1 (g1 := (56, [some (.ref 17), some (sI ((kd : Int))), some (sI ((lk : Int))), some (sI ((if fi = true then 1 else 0))), some (sI ((gr : Int))), some (sI ((F : Int))), some (sI ((M : Int))), some (sI ((N : Int))), some (sI (((B F : Int)) + 1))], [.ref 17], g)) rfl ?_
                refine s_get (a := 17) (j := 0) hg rfl ⟨_, rfl⟩ rfl rfl rfl (v := .ref 18) (hR_ok hg (by decide +kernel)) ?_
                refine sP 2 (g1 := (59, [some (.ref 17), some (sI ((kd : Int))), some (sI ((lk : Int))), some (sI ((if fi = true then 1 else 0))), some (sI ((gr : Int))), some (sI ((F : Int))), some (sI ((M : Int))), some (sI ((N : Int))), some (sI (((B F : Int)) + 1))], [.ref 17, sI ((N : Int)), .ref 18], g)) rfl ?_
                refine s_get (a := 17) (j := 0) hg rfl ⟨_, rfl⟩ rfl rfl rfl (v := .ref 18) (hR_ok hg (by decide +kernel)) ?_
                refine sP 1 (g1 := (61, [some (.ref 17), some (sI ((kd : Int))), some (sI ((lk : Int))), some (sI ((if fi = true then 1 else 0))), some (sI ((gr : Int))), some (sI ((F : Int))), some (sI ((M : Int))), some (sI ((N : Int))), some (sI (((B F : Int)) + 1))], [sI ((N : Int)), .ref 18, sI ((N : Int)), .ref 18], g)) rfl ?_
                refine s_iald (a := 18) (n := 55) (j := (N : Int)) hg rfl rfl rfl (by omega) (by omega) (by decide) (v := sI ((L N : Int))) (by rw [Int.toNat_natCast]; have q := hI_ok hg (z18 (show N < 55 by omega)); rw [l_g _ (by omega)] at q; exact q) ?_
                refine sP 1 (g1 := (63, [some (.ref 17), some (sI ((kd : Int))), some (sI ((lk : Int))), some (sI ((if fi = true then 1 else 0))), some (sI ((gr : Int))), some (sI ((F : Int))), some (sI ((M : Int))), some (sI ((N : Int))), some (sI (((B F : Int)) + 1))], [sI (((B F : Int)) + 1), sI ((L N : Int)), sI ((N : Int)), .ref 18], g)) rfl ?_
                refine s_call (k := 43) (args := [sI ((L N : Int)), sI (((B F : Int)) + 1)]) (st := [sI ((N : Int)), .ref 18]) (v := some (sI (((min (L N) (B F + 1) : Nat) : Int)))) (h1 := g) rfl ⟨rfl, rfl⟩ rfl rfl rfl rfl rfl rfl em ?_
                refine s_iast (a := 18) (n := 55) (j := (N : Int)) hg rfl rfl (show sTg 18 = some (50, 55) from rfl) (by omega) (by omega) (by decide) ?_
                rw [show ((N : Int) : Int).toNat = N by omega]
                rw [← eg1]
                refine s_inc (a := (M : Int)) (n := 1) (k := 6) rfl rfl rfl ?_
                refine sP 1 (g1 := (25, [some (.ref 17), some (sI ((kd : Int))), some (sI ((lk : Int))), some (sI ((if fi = true then 1 else 0))), some (sI ((gr : Int))), some (sI ((F : Int))), some (sI (((M : Int)) + 1)), some (sI ((N : Int))), some (sI (((B F : Int)) + 1))], [], g1)) rfl ?_
                rw [show ((M : Int) + 1) = ((M + 1 : Nat) : Int) by omega]
                exact i1 q hq
            · have hc3 : ¬ ((((M : Int)) : Int) ≠ ((lk : Int))) := hc3
              omega
      · have eL : (fun y => if y = N ∧ N < 55 then min (L y) (B F + 1) else L y) = L := funext (fun y => if_neg (fun q => n55 q.2))
        rw [eL] at k
        obtain ⟨g2, L2, Y6, Y7, Y8, i1, i2, i3⟩ := ih (M + 1) g L (some (sI (N : Int))) (some (sI ((B F : Int) + 1))) (by omega) (by omega) hC k
        refine ⟨g2, L2, Y6, Y7, Y8, fun q hq => ?_, i2, i3⟩
        refine sP 2 (g1 := (27, [some (.ref 17), some (sI ((kd : Int))), some (sI ((lk : Int))), some (sI ((if fi = true then 1 else 0))), some (sI ((gr : Int))), some (sI ((F : Int))), some (sI ((M : Int))), X7, X8], [sI ((gr : Int)), sI ((M : Int))], g)) rfl ?_
        refine s_icmp (q := .gt) (a := (M : Int)) (b := (gr : Int)) rfl ⟨_, rfl⟩ rfl (by unfold sR aMi aMa; omega) (by unfold sR aMi aMa; omega) (fun hc1 => ?_) (fun hc1 => ?_)
        · have hc1 : (((gr : Int)) : Int) < ((M : Int)) := hc1
          omega
        · have hc1 : ¬ ((((gr : Int)) : Int) < ((M : Int))) := hc1
          refine sP 1 (g1 := (29, [some (.ref 17), some (sI ((kd : Int))), some (sI ((lk : Int))), some (sI ((if fi = true then 1 else 0))), some (sI ((gr : Int))), some (sI ((F : Int))), some (sI ((M : Int))), X7, X8], [.ref 17], g)) rfl ?_
          refine s_get (a := 17) (j := 1) hg rfl ⟨_, rfl⟩ rfl rfl rfl (v := .ref 19) (hR_ok hg (by decide +kernel)) ?_
          refine sP 1 (g1 := (31, [some (.ref 17), some (sI ((kd : Int))), some (sI ((lk : Int))), some (sI ((if fi = true then 1 else 0))), some (sI ((gr : Int))), some (sI ((F : Int))), some (sI ((M : Int))), X7, X8], [sI ((F : Int)), .ref 19], g)) rfl ?_
          refine s_iald (a := 19) (n := 55) (j := (F : Int)) hg rfl rfl rfl (by omega) (by omega) (by decide) (v := sI ((B F : Int))) (by rw [Int.toNat_natCast]; have q := hI_ok hg (z19 (show F < 55 by omega)); rw [b_g _ (by omega)] at q; exact q) ?_
          refine sP 1 (g1 := (33, [some (.ref 17), some (sI ((kd : Int))), some (sI ((lk : Int))), some (sI ((if fi = true then 1 else 0))), some (sI ((gr : Int))), some (sI ((F : Int))), some (sI ((M : Int))), X7, X8], [sI 100, sI ((B F : Int))], g)) rfl ?_
          refine s_icmp (q := .ge) (a := (B F : Int)) (b := 100) rfl ⟨_, rfl⟩ rfl (by unfold sR aMi aMa; omega) (by unfold sR aMi aMa; omega) (fun hc2 => ?_) (fun hc2 => ?_)
          · have hc2 : (100 : Int) ≤ ((B F : Int)) := hc2
            omega
          · have hc2 : ¬ ((100 : Int) ≤ ((B F : Int))) := hc2
            refine sP 4 (g1 := (38, [some (.ref 17), some (sI ((kd : Int))), some (sI ((lk : Int))), some (sI ((if fi = true then 1 else 0))), some (sI ((gr : Int))), some (sI ((F : Int))), some (sI ((M : Int))), X7, X8], [sI ((if fi = true then 1 else 0)), sI ((M : Int)), sI ((F : Int)), sI ((kd : Int))], g)) rfl ?_
            refine s_call (k := 41) (args := [sI ((kd : Int)), sI ((F : Int)), sI ((M : Int)), sI ((if fi = true then 1 else 0))]) (st := []) (v := some (sI ((N : Int)))) (h1 := g) rfl ⟨rfl, rfl⟩ rfl rfl rfl rfl rfl rfl ef ?_
            refine sP 2 (g1 := (41, [some (.ref 17), some (sI ((kd : Int))), some (sI ((lk : Int))), some (sI ((if fi = true then 1 else 0))), some (sI ((gr : Int))), some (sI ((F : Int))), some (sI ((M : Int))), some (sI ((N : Int))), X8], [.ref 17], g)) rfl ?_
            refine s_get (a := 17) (j := 1) hg rfl ⟨_, rfl⟩ rfl rfl rfl (v := .ref 19) (hR_ok hg (by decide +kernel)) ?_
            refine sP 1 (g1 := (43, [some (.ref 17), some (sI ((kd : Int))), some (sI ((lk : Int))), some (sI ((if fi = true then 1 else 0))), some (sI ((gr : Int))), some (sI ((F : Int))), some (sI ((M : Int))), some (sI ((N : Int))), X8], [sI ((F : Int)), .ref 19], g)) rfl ?_
            refine s_iald (a := 19) (n := 55) (j := (F : Int)) hg rfl rfl rfl (by omega) (by omega) (by decide) (v := sI ((B F : Int))) (by rw [Int.toNat_natCast]; have q := hI_ok hg (z19 (show F < 55 by omega)); rw [b_g _ (by omega)] at q; exact q) ?_
            refine sP 2 (g1 := (46, [some (.ref 17), some (sI ((kd : Int))), some (sI ((lk : Int))), some (sI ((if fi = true then 1 else 0))), some (sI ((gr : Int))), some (sI ((F : Int))), some (sI ((M : Int))), some (sI ((N : Int))), X8], [sI ((lk : Int)), sI ((M : Int)), sI ((B F : Int))], g)) rfl ?_
            refine s_icmp (q := .ne) (a := (M : Int)) (b := (lk : Int)) rfl ⟨_, rfl⟩ rfl (by unfold sR aMi aMa; omega) (by unfold sR aMi aMa; omega) (fun hc3 => ?_) (fun hc3 => ?_)
            · have hc3 : (((M : Int)) : Int) ≠ ((lk : Int)) := hc3
              refine sP 1 (g1 := (50, [some (.ref 17), some (sI ((kd : Int))), some (sI ((lk : Int))), some (sI ((if fi = true then 1 else 0))), some (sI ((gr : Int))), some (sI ((F : Int))), some (sI ((M : Int))), some (sI ((N : Int))), X8], [sI 1, sI ((B F : Int))], g)) rfl ?_
              refine s_add (a := (B F : Int)) (b := 1) rfl rfl ?_
              refine sP 3 (g1 := (54, [some (.ref 17), some (sI ((kd : Int))), some (sI ((lk : Int))), some (sI ((if fi = true then 1 else 0))), some (sI ((gr : Int))), some (sI ((F : Int))), some (sI ((M : Int))), some (sI ((N : Int))), some (sI (((B F : Int)) + 1))], [sI 55, sI ((N : Int))], g)) rfl ?_
              refine s_icmp (q := .ge) (a := (N : Int)) (b := 55) rfl ⟨_, rfl⟩ rfl (by unfold sR aMi aMa; omega) (by unfold sR aMi aMa; omega) (fun hc4 => ?_) (fun hc4 => ?_)
              · have hc4 : (55 : Int) ≤ ((N : Int)) := hc4
                refine s_inc (a := (M : Int)) (n := 1) (k := 6) rfl rfl rfl ?_
                refine sP 1 (g1 := (25, [some (.ref 17), some (sI ((kd : Int))), some (sI ((lk : Int))), some (sI ((if fi = true then 1 else 0))), some (sI ((gr : Int))), some (sI ((F : Int))), some (sI (((M : Int)) + 1)), some (sI ((N : Int))), some (sI (((B F : Int)) + 1))], [], g)) rfl ?_
                rw [show ((M : Int) + 1) = ((M + 1 : Nat) : Int) by omega]
                exact i1 q hq
              · have hc4 : ¬ ((55 : Int) ≤ ((N : Int))) := hc4
                omega
            · have hc3 : ¬ ((((M : Int)) : Int) ≠ ((lk : Int))) := hc3
              omega
theorem fFiF {kd lk gr : Nat} {fi : Bool} {B : Nat → Nat} (hk : kd < 6) (hg9 : gr ≤ 9) (b_b : ∀ f, f < 55 → hI b 19 f = (B f : Int)) (hlg : lk ≤ gr) : ∀ (c F : Nat) (g : mH) (L : Nat → Nat) (X6 X7 X8 : Option Value), F + c = 55 → mtL b g L → fdS B L kd lk gr fi (fdD F 0) → ∃ (g1 : mH) (L1 : Nat → Nat), nRn sc (d + 2) (mMT mMe90) (mMC mMe90) (20, [some (.ref 17), some (sI ((kd : Int))), some (sI ((lk : Int))), some (sI ((if fi = true then 1 else 0))), some (sI ((gr : Int))), some (sI ((F : Int))), X6, X7, X8], [], g) (none, g1) ∧ mtL b g1 L1 ∧ fdS B L1 kd lk gr fi (fun f _ => f < 55) := by
  intro c
  induction c with
  | zero =>
    intro F g L X6 X7 X8 hF hC hS
    obtain ⟨hg, f_g, l_g⟩ := id hC
    have e : F = 55 := by omega
    subst e
    refine ⟨g, L, ?_, hC, hS.1, hS.2.1, fun f made y f1 f2 f3 f4 hD => hS.2.2 f made y f1 f2 f3 f4 (Or.inl hD)⟩
    refine sP 2 (g1 := (22, [some (.ref 17), some (sI ((kd : Int))), some (sI ((lk : Int))), some (sI ((if fi = true then 1 else 0))), some (sI ((gr : Int))), some (sI (((55 : Nat) : Int))), X6, X7, X8], [sI 55, sI (((55 : Nat) : Int))], g)) rfl ?_
    refine s_icmp (q := .ge) (a := ((55 : Nat) : Int)) (b := 55) rfl ⟨_, rfl⟩ rfl (by unfold sR aMi aMa; omega) (by unfold sR aMi aMa; omega) (fun hc1 => ?_) (fun hc1 => ?_)
    · have hc1 : (55 : Int) ≤ (((55 : Nat) : Int)) := hc1
      exact s_ret rfl rfl
    · have hc1 : ¬ ((55 : Int) ≤ (((55 : Nat) : Int))) := hc1
      omega
  | succ c ih =>
    intro F g L X6 X7 X8 hF hC hS
    obtain ⟨hg, f_g, l_g⟩ := id hC
    have b_g : ∀ f, f < 55 → hI g 19 f = (B f : Int) := fun f hf => by rw [hI_cg (f_g 19 f (by omega))]; exact b_b f hf
    have bF : (B F : Int) ≤ 100 := by
      have q := hI_rg hg (z19 (show F < 55 by omega))
      rw [b_g F (by omega)] at q
      exact q.2
    have hlk : lk ≤ 9 := by omega
    by_cases hB : B F < 100
    · obtain ⟨g1, L1, Y6, Y7, Y8, i1, i2, i3⟩ := fFiI (sc := sc) (d := d) (F := F) hk hg9 (by omega) b_b hB (gr + 1 - lk) lk g L X7 X8 (by omega) (Nat.le_refl _) hC ⟨hS.1, hS.2.1, fun f made y f1 f2 f3 f4 hD => hS.2.2 f made y f1 f2 f3 f4 (by unfold fdD at hD ⊢; omega)⟩
      obtain ⟨g2, L2, j1, j2, j3⟩ := ih (F + 1) g1 L1 Y6 Y7 Y8 (by omega) i2 i3
      refine ⟨g2, L2, ?_, j2, j3⟩
      refine sP 2 (g1 := (22, [some (.ref 17), some (sI ((kd : Int))), some (sI ((lk : Int))), some (sI ((if fi = true then 1 else 0))), some (sI ((gr : Int))), some (sI ((F : Int))), X6, X7, X8], [sI 55, sI ((F : Int))], g)) rfl ?_
      refine s_icmp (q := .ge) (a := (F : Int)) (b := 55) rfl ⟨_, rfl⟩ rfl (by unfold sR aMi aMa; omega) (by unfold sR aMi aMa; omega) (fun hc1 => ?_) (fun hc1 => ?_)
      · have hc1 : (55 : Int) ≤ ((F : Int)) := hc1
        omega
      · have hc1 : ¬ ((55 : Int) ≤ ((F : Int))) := hc1
        refine sP 2 (g1 := (25, [some (.ref 17), some (sI ((kd : Int))), some (sI ((lk : Int))), some (sI ((if fi = true then 1 else 0))), some (sI ((gr : Int))), some (sI ((F : Int))), some (sI ((lk : Int))), X7, X8], [], g)) rfl ?_
        refine i1 _ ?_
        refine s_inc (a := (F : Int)) (n := 1) (k := 5) rfl rfl rfl ?_
        refine sP 1 (g1 := (20, [some (.ref 17), some (sI ((kd : Int))), some (sI ((lk : Int))), some (sI ((if fi = true then 1 else 0))), some (sI ((gr : Int))), some (sI (((F : Int)) + 1)), Y6, Y7, Y8], [], g1)) rfl ?_
        rw [show ((F : Int) + 1) = ((F + 1 : Nat) : Int) by omega]
        exact j1
    · obtain ⟨g2, L2, j1, j2, j3⟩ := ih (F + 1) g L (some (sI (lk : Int))) X7 X8 (by omega) hC ⟨hS.1, hS.2.1, fun f made y f1 f2 f3 f4 hD => hS.2.2 f made y f1 f2 f3 f4 (by
        unfold fdD at hD ⊢
        by_cases e : f = F
        · rw [e] at f2
          exact absurd f2 hB
        · omega)⟩
      refine ⟨g2, L2, ?_, j2, j3⟩
      refine sP 2 (g1 := (22, [some (.ref 17), some (sI ((kd : Int))), some (sI ((lk : Int))), some (sI ((if fi = true then 1 else 0))), some (sI ((gr : Int))), some (sI ((F : Int))), X6, X7, X8], [sI 55, sI ((F : Int))], g)) rfl ?_
      refine s_icmp (q := .ge) (a := (F : Int)) (b := 55) rfl ⟨_, rfl⟩ rfl (by unfold sR aMi aMa; omega) (by unfold sR aMi aMa; omega) (fun hc1 => ?_) (fun hc1 => ?_)
      · have hc1 : (55 : Int) ≤ ((F : Int)) := hc1
        omega
      · have hc1 : ¬ ((55 : Int) ≤ ((F : Int))) := hc1
        refine sP 4 (g1 := (27, [some (.ref 17), some (sI ((kd : Int))), some (sI ((lk : Int))), some (sI ((if fi = true then 1 else 0))), some (sI ((gr : Int))), some (sI ((F : Int))), some (sI ((lk : Int))), X7, X8], [sI ((gr : Int)), sI ((lk : Int))], g)) rfl ?_
        refine s_icmp (q := .gt) (a := (lk : Int)) (b := (gr : Int)) rfl ⟨_, rfl⟩ rfl (by unfold sR aMi aMa; omega) (by unfold sR aMi aMa; omega) (fun hc2 => ?_) (fun hc2 => ?_)
        · have hc2 : (((gr : Int)) : Int) < ((lk : Int)) := hc2
          omega
        · have hc2 : ¬ ((((gr : Int)) : Int) < ((lk : Int))) := hc2
          refine sP 1 (g1 := (29, [some (.ref 17), some (sI ((kd : Int))), some (sI ((lk : Int))), some (sI ((if fi = true then 1 else 0))), some (sI ((gr : Int))), some (sI ((F : Int))), some (sI ((lk : Int))), X7, X8], [.ref 17], g)) rfl ?_
          refine s_get (a := 17) (j := 1) hg rfl ⟨_, rfl⟩ rfl rfl rfl (v := .ref 19) (hR_ok hg (by decide +kernel)) ?_
          refine sP 1 (g1 := (31, [some (.ref 17), some (sI ((kd : Int))), some (sI ((lk : Int))), some (sI ((if fi = true then 1 else 0))), some (sI ((gr : Int))), some (sI ((F : Int))), some (sI ((lk : Int))), X7, X8], [sI ((F : Int)), .ref 19], g)) rfl ?_
          refine s_iald (a := 19) (n := 55) (j := (F : Int)) hg rfl rfl rfl (by omega) (by omega) (by decide) (v := sI ((B F : Int))) (by rw [Int.toNat_natCast]; have q := hI_ok hg (z19 (show F < 55 by omega)); rw [b_g _ (by omega)] at q; exact q) ?_
          refine sP 1 (g1 := (33, [some (.ref 17), some (sI ((kd : Int))), some (sI ((lk : Int))), some (sI ((if fi = true then 1 else 0))), some (sI ((gr : Int))), some (sI ((F : Int))), some (sI ((lk : Int))), X7, X8], [sI 100, sI ((B F : Int))], g)) rfl ?_
          refine s_icmp (q := .ge) (a := (B F : Int)) (b := 100) rfl ⟨_, rfl⟩ rfl (by unfold sR aMi aMa; omega) (by unfold sR aMi aMa; omega) (fun hc3 => ?_) (fun hc3 => ?_)
          · have hc3 : (100 : Int) ≤ ((B F : Int)) := hc3
            refine s_inc (a := (F : Int)) (n := 1) (k := 5) rfl rfl rfl ?_
            refine sP 1 (g1 := (20, [some (.ref 17), some (sI ((kd : Int))), some (sI ((lk : Int))), some (sI ((if fi = true then 1 else 0))), some (sI ((gr : Int))), some (sI (((F : Int)) + 1)), some (sI ((lk : Int))), X7, X8], [], g)) rfl ?_
            rw [show ((F : Int) + 1) = ((F + 1 : Nat) : Int) by omega]
            exact j1
          · have hc3 : ¬ ((100 : Int) ≤ ((B F : Int))) := hc3
            omega
theorem fFoldIn {h : mH} {kd lk : Nat} {fi : Bool} {B : Nat → Nat} (hh : aHp h) (hk : kd < 6) (hl9 : lk ≤ 9) (hB : ∀ f, f < 55 → hI h 18 f = (B f : Int)) : ∃ (g : mH) (L : Nat → Nat), nEv sc (d + 3) 90 [.ref 17, sI (kd : Int), sI (lk : Int), sI (if fi = true then 1 else 0)] h (none, g) ∧ aHp g ∧ (∀ p m, p ≠ 18 → p ≠ 19 → aSlot g p m = aSlot h p m) ∧ (∀ f, f < 55 → hI g 18 f = (L f : Int)) ∧ fdS B L kd lk (if lk = 0 then 9 else lk) fi (fun f _ => f < 55) := by
  obtain ⟨g0, eg0⟩ : ∃ g0, g0 = hcpy h 18 19 := ⟨_, rfl⟩
  have hg0 : aHp g0 := by rw [eg0]; exact hcpy_hp hh (show aTlB 18 19 = true by decide +kernel)
  have sg0 : ∀ p m, aSlot g0 p m = if p = 19 then aSlot h 18 m else aSlot h p m := fun p m => by rw [eg0]; exact hcpy_slot hh (show sTg 18 = some (50, 55) from rfl) (show sTg 19 = some (50, 55) from rfl) p m
  obtain ⟨g1, ef, hg1, sg1⟩ := fFillG (sc := sc) (d := d + 1) (p := 18) (n := 55) (v := 100) (h := g0) rfl (by decide) (fun g j hg hj => hset_ii hg (z18i hj) (by omega) (by omega) (by unfold sR aMi aMa; omega)) hg0
  have b1 : ∀ f, f < 55 → hI g1 19 f = (B f : Int) := fun f hf => by rw [hI_cg2 (show aSlot g1 19 f = aSlot h 18 f by rw [sg1, if_neg (by omega), sg0, if_pos rfl])]; exact hB f hf
  have hC : mtL g1 g1 (fun _ => 100) := ⟨hg1, fun p m _ => rfl, fun f hf => by
    show hI g1 18 f = ((100 : Nat) : Int)
    exact hI_si (by rw [sg1, if_pos ⟨rfl, hf⟩]; rfl) (by unfold sR aMi aMa; omega)⟩
  obtain ⟨gr, egr⟩ : ∃ gr, gr = (if lk = 0 then 9 else lk) := ⟨_, rfl⟩
  have g9 : gr ≤ 9 ∧ lk ≤ gr := by
    rw [egr]
    split <;> omega
  obtain ⟨g2, L, i1, i2, i3⟩ := fFiF (sc := sc) (d := d) (b := g1) (kd := kd) (lk := lk) (gr := gr) (fi := fi) (B := B) hk g9.1 b1 g9.2 55 0 g1 (fun _ => 100) none none none (by omega) hC ⟨fun _ => Nat.le_refl _, fun g hg hl => absurd hl (Nat.lt_irrefl 100), fun f made y f1 f2 f3 f4 hD => by unfold fdD at hD; omega⟩
  rw [← egr]
  refine ⟨g2, L, nEv_of (t := mMe90) rfl ?_, i2.1, fun p m w1 w2 => by rw [i2.2.1 p m w1, sg1, if_neg (by omega), sg0, if_neg w2], i2.2.2, i3⟩
  by_cases l0 : lk = 0
  · rw [if_pos l0] at egr
    rw [egr] at i1
    show nRn sc (d + 2) (mMT mMe90) (mMC mMe90) (0, [some (.ref 17), some (sI ((kd : Int))), some (sI ((lk : Int))), some (sI ((if fi = true then 1 else 0))), none, none, none, none, none], [], h) _
    refine sP 1 (g1 := (1, [some (.ref 17), some (sI ((kd : Int))), some (sI ((lk : Int))), some (sI ((if fi = true then 1 else 0))), none, none, none, none, none], [.ref 17], h)) rfl ?_
    refine s_get (a := 17) (j := 0) hh rfl ⟨_, rfl⟩ rfl rfl rfl (v := .ref 18) (hR_ok hh (by decide +kernel)) ?_
    refine sP 2 (g1 := (4, [some (.ref 17), some (sI ((kd : Int))), some (sI ((lk : Int))), some (sI ((if fi = true then 1 else 0))), none, none, none, none, none], [.ref 17, sI 0, .ref 18], h)) rfl ?_
    refine s_get (a := 17) (j := 1) hh rfl ⟨_, rfl⟩ rfl rfl rfl (v := .ref 19) (hR_ok hh (by decide +kernel)) ?_
    refine sP 2 (g1 := (7, [some (.ref 17), some (sI ((kd : Int))), some (sI ((lk : Int))), some (sI ((if fi = true then 1 else 0))), none, none, none, none, none], [sI 55, sI 0, .ref 19, sI 0, .ref 18], h)) rfl ?_
    refine s_acp (a0 := 18) (a1 := 19) (n := 55) hh rfl ⟨_, rfl⟩ rfl rfl rfl (by decide) (by decide +kernel) rfl ?_
    rw [← eg0]
    refine sP 1 (g1 := (9, [some (.ref 17), some (sI ((kd : Int))), some (sI ((lk : Int))), some (sI ((if fi = true then 1 else 0))), none, none, none, none, none], [.ref 17], g0)) rfl ?_
    refine s_get (a := 17) (j := 0) hg0 rfl ⟨_, rfl⟩ rfl rfl rfl (v := .ref 18) (hR_ok hg0 (by decide +kernel)) ?_
    refine sP 1 (g1 := (11, [some (.ref 17), some (sI ((kd : Int))), some (sI ((lk : Int))), some (sI ((if fi = true then 1 else 0))), none, none, none, none, none], [sI 100, .ref 18], g0)) rfl ?_
    refine s_call (k := 11) (args := [.ref 18, sI 100]) (st := []) (v := none) (h1 := g1) rfl ⟨rfl, rfl⟩ rfl rfl rfl rfl rfl rfl ef ?_
    refine sP 1 (g1 := (13, [some (.ref 17), some (sI ((kd : Int))), some (sI ((lk : Int))), some (sI ((if fi = true then 1 else 0))), none, none, none, none, none], [sI ((lk : Int))], g1)) rfl ?_
    refine s_ifc (q := .ne) (a := (lk : Int)) rfl ⟨_, rfl⟩ rfl (by unfold sR aMi aMa; omega) (fun hc1 => ?_) (fun hc1 => ?_)
    · have hc1 : (((lk : Int)) : Int) ≠ 0 := hc1
      omega
    · have hc1 : ¬ ((((lk : Int)) : Int) ≠ 0) := hc1
      refine sP 5 (g1 := (20, [some (.ref 17), some (sI ((kd : Int))), some (sI ((lk : Int))), some (sI ((if fi = true then 1 else 0))), some (sI 9), some (sI 0), none, none, none], [], g1)) rfl ?_
      exact i1
  · rw [if_neg l0] at egr
    rw [egr] at i1
    show nRn sc (d + 2) (mMT mMe90) (mMC mMe90) (0, [some (.ref 17), some (sI ((kd : Int))), some (sI ((lk : Int))), some (sI ((if fi = true then 1 else 0))), none, none, none, none, none], [], h) _
    refine sP 1 (g1 := (1, [some (.ref 17), some (sI ((kd : Int))), some (sI ((lk : Int))), some (sI ((if fi = true then 1 else 0))), none, none, none, none, none], [.ref 17], h)) rfl ?_
    refine s_get (a := 17) (j := 0) hh rfl ⟨_, rfl⟩ rfl rfl rfl (v := .ref 18) (hR_ok hh (by decide +kernel)) ?_
    refine sP 2 (g1 := (4, [some (.ref 17), some (sI ((kd : Int))), some (sI ((lk : Int))), some (sI ((if fi = true then 1 else 0))), none, none, none, none, none], [.ref 17, sI 0, .ref 18], h)) rfl ?_
    refine s_get (a := 17) (j := 1) hh rfl ⟨_, rfl⟩ rfl rfl rfl (v := .ref 19) (hR_ok hh (by decide +kernel)) ?_
    refine sP 2 (g1 := (7, [some (.ref 17), some (sI ((kd : Int))), some (sI ((lk : Int))), some (sI ((if fi = true then 1 else 0))), none, none, none, none, none], [sI 55, sI 0, .ref 19, sI 0, .ref 18], h)) rfl ?_
    refine s_acp (a0 := 18) (a1 := 19) (n := 55) hh rfl ⟨_, rfl⟩ rfl rfl rfl (by decide) (by decide +kernel) rfl ?_
    rw [← eg0]
    refine sP 1 (g1 := (9, [some (.ref 17), some (sI ((kd : Int))), some (sI ((lk : Int))), some (sI ((if fi = true then 1 else 0))), none, none, none, none, none], [.ref 17], g0)) rfl ?_
    refine s_get (a := 17) (j := 0) hg0 rfl ⟨_, rfl⟩ rfl rfl rfl (v := .ref 18) (hR_ok hg0 (by decide +kernel)) ?_
    refine sP 1 (g1 := (11, [some (.ref 17), some (sI ((kd : Int))), some (sI ((lk : Int))), some (sI ((if fi = true then 1 else 0))), none, none, none, none, none], [sI 100, .ref 18], g0)) rfl ?_
    refine s_call (k := 11) (args := [.ref 18, sI 100]) (st := []) (v := none) (h1 := g1) rfl ⟨rfl, rfl⟩ rfl rfl rfl rfl rfl rfl ef ?_
    refine sP 1 (g1 := (13, [some (.ref 17), some (sI ((kd : Int))), some (sI ((lk : Int))), some (sI ((if fi = true then 1 else 0))), none, none, none, none, none], [sI ((lk : Int))], g1)) rfl ?_
    refine s_ifc (q := .ne) (a := (lk : Int)) rfl ⟨_, rfl⟩ rfl (by unfold sR aMi aMa; omega) (fun hc1 => ?_) (fun hc1 => ?_)
    · have hc1 : (((lk : Int)) : Int) ≠ 0 := hc1
      refine sP 4 (g1 := (20, [some (.ref 17), some (sI ((kd : Int))), some (sI ((lk : Int))), some (sI ((if fi = true then 1 else 0))), some (sI ((lk : Int))), some (sI 0), none, none, none], [], g1)) rfl ?_
      exact i1
    · have hc1 : ¬ ((((lk : Int)) : Int) ≠ 0) := hc1
      omega
theorem fMfL {h : mH} {n kd a s : Nat} {v : Int} (hh : aHp h) (hn6 : n ≤ 6) (ha : a < 6) (hs : s < 64) (hk : kd < 6) (n_h : hI h 3 3 = (n : Int)) : ∀ (c j : Nat) (g : mH) (B : Nat → Nat), j + c = n → aHp g → (∀ p m, p ≠ 18 → p ≠ 19 → aSlot g p m = aSlot h p m) → (∀ f, f < 55 → hI g 18 f = (B f : Int)) → dpW (hI h 5) kd a s n j B → ∃ (g1 : mH) (L : Nat → Nat), (∀ q, nRn sc (d + 3) (mMT mMe89) (mMC mMe89) (44, [some (.ref 17), some (.ref 3), some (sI ((a : Int))), some (sI ((s : Int))), some (sI v), some (sI ((kd : Int))), some (sI (((ctW a s n : Nat) : Int))), some (sI ((n : Int))), none], [], g1) q → nRn sc (d + 3) (mMT mMe89) (mMC mMe89) (18, [some (.ref 17), some (.ref 3), some (sI ((a : Int))), some (sI ((s : Int))), some (sI v), some (sI ((kd : Int))), some (sI (((ctW a s j : Nat) : Int))), some (sI ((j : Int))), none], [], g) q) ∧ aHp g1 ∧ (∀ p m, p ≠ 18 → p ≠ 19 → aSlot g1 p m = aSlot h p m) ∧ (∀ f, f < 55 → hI g1 18 f = (L f : Int)) ∧ dpW (hI h 5) kd a s n n L := by
  intro c
  induction c with
  | zero =>
    intro j g B hj hg f_g l_g hD
    have e : j = n := by omega
    subst e
    have n_g : hI g 3 3 = (j : Int) := by rw [hI_cg (f_g 3 3 (by omega) (by omega))]; exact n_h
    refine ⟨g, B, fun q hq => ?_, hg, f_g, l_g, hD⟩
    refine sP 2 (g1 := (20, [some (.ref 17), some (.ref 3), some (sI ((a : Int))), some (sI ((s : Int))), some (sI v), some (sI ((kd : Int))), some (sI (((ctW a s j : Nat) : Int))), some (sI ((j : Int))), none], [.ref 3, sI ((j : Int))], g)) rfl ?_
    refine s_get (a := 3) (j := 3) hg rfl ⟨_, rfl⟩ rfl rfl rfl (v := sI ((j : Int))) (by have q := hI_ok hg xw_p; rw [n_g] at q; exact q) ?_
    refine s_icmp (q := .ge) (a := (j : Int)) (b := (j : Int)) rfl ⟨_, rfl⟩ rfl (by unfold sR aMi aMa; omega) (by unfold sR aMi aMa; omega) (fun hc1 => ?_) (fun hc1 => ?_)
    · have hc1 : (((j : Int)) : Int) ≤ ((j : Int)) := hc1
      exact hq
    · have hc1 : ¬ ((((j : Int)) : Int) ≤ ((j : Int))) := hc1
      omega
  | succ c ih =>
    intro j g B hj hg f_g l_g hD
    have n_g : hI g 3 3 = (n : Int) := by rw [hI_cg (f_g 3 3 (by omega) (by omega))]; exact n_h
    have cl := ctW_le a s j
    have vi := fIsIn (sc := sc) (d := d + 2) (h := g) (s := s) (a := j) hs (by omega)
    have ec : ctW a s (j + 1) = if j ≠ a ∧ bt s j = true then ctW a s j + 1 else ctW a s j := rfl
    by_cases hc : j ≠ a ∧ bt s j = true
    · rw [if_pos hc.2] at vi
      rw [if_pos hc] at ec
      have gl := hI_rg hh (xw_l (show 6 * a + j < 36 by omega))
      obtain ⟨lk, elk⟩ : ∃ lk : Nat, hI h 5 (6 * a + j) = (lk : Int) := ⟨(hI h 5 (6 * a + j)).toNat, by omega⟩
      have el : nEv sc (d + 3) 40 [.ref 3, sI (a : Int), sI (j : Int)] g (some (sI (lk : Int)), g) := by
        have q := fLookX (sc := sc) (d := d + 2) (e := 3) (a := a) (b := j) hg (by decide) ha (by omega)
        rw [show hI g (3 + 2) (6 * a + j) = (lk : Int) by rw [hI_cg (f_g 5 _ (by omega) (by omega))]; exact elk] at q
        exact q
      obtain ⟨g1, L, ef, hg1, f1, l1, s1⟩ := fFoldIn (sc := sc) (d := d) (kd := kd) (lk := lk) (fi := decide (ctW a s j = 0)) hg hk (by omega) l_g
      have hD1 := dp_fold (by omega) hn6 ha hc hD elk (by omega) rfl s1.1 s1.2.1 (fun f made y f1 f2 f3 f4 => s1.2.2 f made y f1 f2 f3 f4 f1)
      obtain ⟨g2, L2, i1, i2, i3, i4, i5⟩ := ih (j + 1) g1 L (by omega) hg1 (fun p m w1 w2 => by rw [f1 p m w1 w2, f_g p m w1 w2]) l1 hD1
      rw [ec] at i1
      refine ⟨g2, L2, fun q hq => ?_, i2, i3, i4, i5⟩
      have i1 := i1 q hq
      by_cases c0 : ctW a s j = 0
      · rw [if_pos (decide_eq_true c0)] at ef
        refine sP 2 (g1 := (20, [some (.ref 17), some (.ref 3), some (sI ((a : Int))), some (sI ((s : Int))), some (sI v), some (sI ((kd : Int))), some (sI (((ctW a s j : Nat) : Int))), some (sI ((j : Int))), none], [.ref 3, sI ((j : Int))], g)) rfl ?_
        refine s_get (a := 3) (j := 3) hg rfl ⟨_, rfl⟩ rfl rfl rfl (v := sI ((n : Int))) (by have q := hI_ok hg xw_p; rw [n_g] at q; exact q) ?_
        refine s_icmp (q := .ge) (a := (j : Int)) (b := (n : Int)) rfl ⟨_, rfl⟩ rfl (by unfold sR aMi aMa; omega) (by unfold sR aMi aMa; omega) (fun hc1 => ?_) (fun hc1 => ?_)
        · have hc1 : (((n : Int)) : Int) ≤ ((j : Int)) := hc1
          omega
        · have hc1 : ¬ ((((n : Int)) : Int) ≤ ((j : Int))) := hc1
          refine sP 2 (g1 := (24, [some (.ref 17), some (.ref 3), some (sI ((a : Int))), some (sI ((s : Int))), some (sI v), some (sI ((kd : Int))), some (sI (((ctW a s j : Nat) : Int))), some (sI ((j : Int))), none], [sI ((a : Int)), sI ((j : Int))], g)) rfl ?_
          refine s_icmp (q := .eq) (a := (j : Int)) (b := (a : Int)) rfl ⟨_, rfl⟩ rfl (by unfold sR aMi aMa; omega) (by unfold sR aMi aMa; omega) (fun hc2 => ?_) (fun hc2 => ?_)
          · have hc2 : (((j : Int)) : Int) = ((a : Int)) := hc2
            omega
          · have hc2 : ¬ ((((j : Int)) : Int) = ((a : Int))) := hc2
            refine sP 2 (g1 := (27, [some (.ref 17), some (.ref 3), some (sI ((a : Int))), some (sI ((s : Int))), some (sI v), some (sI ((kd : Int))), some (sI (((ctW a s j : Nat) : Int))), some (sI ((j : Int))), none], [sI ((j : Int)), sI ((s : Int))], g)) rfl ?_
            refine s_call (k := 39) (args := [sI ((s : Int)), sI ((j : Int))]) (st := []) (v := some (sI 1)) (h1 := g) rfl ⟨rfl, rfl⟩ rfl rfl rfl rfl rfl rfl vi ?_
            refine s_ifc (q := .eq) (a := 1) rfl ⟨_, rfl⟩ rfl (by unfold sR aMi aMa; omega) (fun hc3 => ?_) (fun hc3 => ?_)
            · have hc3 : (1 : Int) = 0 := hc3
              omega
            · have hc3 : ¬ ((1 : Int) = 0) := hc3
              refine sP 5 (g1 := (34, [some (.ref 17), some (.ref 3), some (sI ((a : Int))), some (sI ((s : Int))), some (sI v), some (sI ((kd : Int))), some (sI (((ctW a s j : Nat) : Int))), some (sI ((j : Int))), none], [sI ((j : Int)), sI ((a : Int)), .ref 3, sI ((kd : Int)), .ref 17], g)) rfl ?_
              refine s_call (k := 40) (args := [.ref 3, sI ((a : Int)), sI ((j : Int))]) (st := [sI ((kd : Int)), .ref 17]) (v := some (sI ((lk : Int)))) (h1 := g) rfl ⟨rfl, rfl⟩ rfl rfl rfl rfl (sRcv hg (a := 3) rfl rfl) rfl el ?_
              refine sP 1 (g1 := (36, [some (.ref 17), some (.ref 3), some (sI ((a : Int))), some (sI ((s : Int))), some (sI v), some (sI ((kd : Int))), some (sI (((ctW a s j : Nat) : Int))), some (sI ((j : Int))), none], [sI (((ctW a s j : Nat) : Int)), sI ((lk : Int)), sI ((kd : Int)), .ref 17], g)) rfl ?_
              refine s_ifc (q := .ne) (a := ((ctW a s j : Nat) : Int)) rfl ⟨_, rfl⟩ rfl (by unfold sR aMi aMa; omega) (fun hc4 => ?_) (fun hc4 => ?_)
              · have hc4 : ((((ctW a s j : Nat) : Int)) : Int) ≠ 0 := hc4
                omega
              · have hc4 : ¬ (((((ctW a s j : Nat) : Int)) : Int) ≠ 0) := hc4
                refine sP 2 (g1 := (40, [some (.ref 17), some (.ref 3), some (sI ((a : Int))), some (sI ((s : Int))), some (sI v), some (sI ((kd : Int))), some (sI (((ctW a s j : Nat) : Int))), some (sI ((j : Int))), none], [sI 1, sI ((lk : Int)), sI ((kd : Int)), .ref 17], g)) rfl ?_
                refine s_call (k := 90) (args := [.ref 17, sI ((kd : Int)), sI ((lk : Int)), sI 1]) (st := []) (v := none) (h1 := g1) rfl ⟨rfl, rfl⟩ rfl rfl rfl rfl (sRcv hg (a := 17) rfl rfl) rfl ef ?_
                refine s_inc (a := ((ctW a s j : Nat) : Int)) (n := 1) (k := 6) rfl rfl rfl ?_
                refine s_inc (a := (j : Int)) (n := 1) (k := 7) rfl rfl rfl ?_
                refine sP 1 (g1 := (18, [some (.ref 17), some (.ref 3), some (sI ((a : Int))), some (sI ((s : Int))), some (sI v), some (sI ((kd : Int))), some (sI ((((ctW a s j : Nat) : Int)) + 1)), some (sI (((j : Int)) + 1)), none], [], g1)) rfl ?_
                rw [show ((ctW a s j : Nat) : Int) + 1 = ((ctW a s j + 1 : Nat) : Int) by omega, show ((j : Int) + 1) = ((j + 1 : Nat) : Int) by omega]
                exact i1
      · rw [if_neg (by rw [decide_eq_false c0]; decide)] at ef
        refine sP 2 (g1 := (20, [some (.ref 17), some (.ref 3), some (sI ((a : Int))), some (sI ((s : Int))), some (sI v), some (sI ((kd : Int))), some (sI (((ctW a s j : Nat) : Int))), some (sI ((j : Int))), none], [.ref 3, sI ((j : Int))], g)) rfl ?_
        refine s_get (a := 3) (j := 3) hg rfl ⟨_, rfl⟩ rfl rfl rfl (v := sI ((n : Int))) (by have q := hI_ok hg xw_p; rw [n_g] at q; exact q) ?_
        refine s_icmp (q := .ge) (a := (j : Int)) (b := (n : Int)) rfl ⟨_, rfl⟩ rfl (by unfold sR aMi aMa; omega) (by unfold sR aMi aMa; omega) (fun hc1 => ?_) (fun hc1 => ?_)
        · have hc1 : (((n : Int)) : Int) ≤ ((j : Int)) := hc1
          omega
        · have hc1 : ¬ ((((n : Int)) : Int) ≤ ((j : Int))) := hc1
          refine sP 2 (g1 := (24, [some (.ref 17), some (.ref 3), some (sI ((a : Int))), some (sI ((s : Int))), some (sI v), some (sI ((kd : Int))), some (sI (((ctW a s j : Nat) : Int))), some (sI ((j : Int))), none], [sI ((a : Int)), sI ((j : Int))], g)) rfl ?_
          refine s_icmp (q := .eq) (a := (j : Int)) (b := (a : Int)) rfl ⟨_, rfl⟩ rfl (by unfold sR aMi aMa; omega) (by unfold sR aMi aMa; omega) (fun hc2 => ?_) (fun hc2 => ?_)
          · have hc2 : (((j : Int)) : Int) = ((a : Int)) := hc2
            omega
          · have hc2 : ¬ ((((j : Int)) : Int) = ((a : Int))) := hc2
            refine sP 2 (g1 := (27, [some (.ref 17), some (.ref 3), some (sI ((a : Int))), some (sI ((s : Int))), some (sI v), some (sI ((kd : Int))), some (sI (((ctW a s j : Nat) : Int))), some (sI ((j : Int))), none], [sI ((j : Int)), sI ((s : Int))], g)) rfl ?_
            refine s_call (k := 39) (args := [sI ((s : Int)), sI ((j : Int))]) (st := []) (v := some (sI 1)) (h1 := g) rfl ⟨rfl, rfl⟩ rfl rfl rfl rfl rfl rfl vi ?_
            refine s_ifc (q := .eq) (a := 1) rfl ⟨_, rfl⟩ rfl (by unfold sR aMi aMa; omega) (fun hc3 => ?_) (fun hc3 => ?_)
            · have hc3 : (1 : Int) = 0 := hc3
              omega
            · have hc3 : ¬ ((1 : Int) = 0) := hc3
              refine sP 5 (g1 := (34, [some (.ref 17), some (.ref 3), some (sI ((a : Int))), some (sI ((s : Int))), some (sI v), some (sI ((kd : Int))), some (sI (((ctW a s j : Nat) : Int))), some (sI ((j : Int))), none], [sI ((j : Int)), sI ((a : Int)), .ref 3, sI ((kd : Int)), .ref 17], g)) rfl ?_
              refine s_call (k := 40) (args := [.ref 3, sI ((a : Int)), sI ((j : Int))]) (st := [sI ((kd : Int)), .ref 17]) (v := some (sI ((lk : Int)))) (h1 := g) rfl ⟨rfl, rfl⟩ rfl rfl rfl rfl (sRcv hg (a := 3) rfl rfl) rfl el ?_
              refine sP 1 (g1 := (36, [some (.ref 17), some (.ref 3), some (sI ((a : Int))), some (sI ((s : Int))), some (sI v), some (sI ((kd : Int))), some (sI (((ctW a s j : Nat) : Int))), some (sI ((j : Int))), none], [sI (((ctW a s j : Nat) : Int)), sI ((lk : Int)), sI ((kd : Int)), .ref 17], g)) rfl ?_
              refine s_ifc (q := .ne) (a := ((ctW a s j : Nat) : Int)) rfl ⟨_, rfl⟩ rfl (by unfold sR aMi aMa; omega) (fun hc4 => ?_) (fun hc4 => ?_)
              · have hc4 : ((((ctW a s j : Nat) : Int)) : Int) ≠ 0 := hc4
                refine sP 1 (g1 := (40, [some (.ref 17), some (.ref 3), some (sI ((a : Int))), some (sI ((s : Int))), some (sI v), some (sI ((kd : Int))), some (sI (((ctW a s j : Nat) : Int))), some (sI ((j : Int))), none], [sI 0, sI ((lk : Int)), sI ((kd : Int)), .ref 17], g)) rfl ?_
                refine s_call (k := 90) (args := [.ref 17, sI ((kd : Int)), sI ((lk : Int)), sI 0]) (st := []) (v := none) (h1 := g1) rfl ⟨rfl, rfl⟩ rfl rfl rfl rfl (sRcv hg (a := 17) rfl rfl) rfl ef ?_
                refine s_inc (a := ((ctW a s j : Nat) : Int)) (n := 1) (k := 6) rfl rfl rfl ?_
                refine s_inc (a := (j : Int)) (n := 1) (k := 7) rfl rfl rfl ?_
                refine sP 1 (g1 := (18, [some (.ref 17), some (.ref 3), some (sI ((a : Int))), some (sI ((s : Int))), some (sI v), some (sI ((kd : Int))), some (sI ((((ctW a s j : Nat) : Int)) + 1)), some (sI (((j : Int)) + 1)), none], [], g1)) rfl ?_
                rw [show ((ctW a s j : Nat) : Int) + 1 = ((ctW a s j + 1 : Nat) : Int) by omega, show ((j : Int) + 1) = ((j + 1 : Nat) : Int) by omega]
                exact i1
              · have hc4 : ¬ (((((ctW a s j : Nat) : Int)) : Int) ≠ 0) := hc4
                omega
    · rw [if_neg hc] at ec
      obtain ⟨g2, L2, i1, i2, i3, i4, i5⟩ := ih (j + 1) g B (by omega) hg f_g l_g (dp_skip hD hc)
      rw [ec] at i1
      refine ⟨g2, L2, fun q hq => ?_, i2, i3, i4, i5⟩
      have i1 := i1 q hq
      by_cases ja : j = a
      · have ja := ja
        refine sP 2 (g1 := (20, [some (.ref 17), some (.ref 3), some (sI ((a : Int))), some (sI ((s : Int))), some (sI v), some (sI ((kd : Int))), some (sI (((ctW a s j : Nat) : Int))), some (sI ((j : Int))), none], [.ref 3, sI ((j : Int))], g)) rfl ?_
        refine s_get (a := 3) (j := 3) hg rfl ⟨_, rfl⟩ rfl rfl rfl (v := sI ((n : Int))) (by have q := hI_ok hg xw_p; rw [n_g] at q; exact q) ?_
        refine s_icmp (q := .ge) (a := (j : Int)) (b := (n : Int)) rfl ⟨_, rfl⟩ rfl (by unfold sR aMi aMa; omega) (by unfold sR aMi aMa; omega) (fun hc1 => ?_) (fun hc1 => ?_)
        · have hc1 : (((n : Int)) : Int) ≤ ((j : Int)) := hc1
          omega
        · have hc1 : ¬ ((((n : Int)) : Int) ≤ ((j : Int))) := hc1
          refine sP 2 (g1 := (24, [some (.ref 17), some (.ref 3), some (sI ((a : Int))), some (sI ((s : Int))), some (sI v), some (sI ((kd : Int))), some (sI (((ctW a s j : Nat) : Int))), some (sI ((j : Int))), none], [sI ((a : Int)), sI ((j : Int))], g)) rfl ?_
          refine s_icmp (q := .eq) (a := (j : Int)) (b := (a : Int)) rfl ⟨_, rfl⟩ rfl (by unfold sR aMi aMa; omega) (by unfold sR aMi aMa; omega) (fun hc2 => ?_) (fun hc2 => ?_)
          · have hc2 : (((j : Int)) : Int) = ((a : Int)) := hc2
            refine s_inc (a := (j : Int)) (n := 1) (k := 7) rfl rfl rfl ?_
            refine sP 1 (g1 := (18, [some (.ref 17), some (.ref 3), some (sI ((a : Int))), some (sI ((s : Int))), some (sI v), some (sI ((kd : Int))), some (sI (((ctW a s j : Nat) : Int))), some (sI (((j : Int)) + 1)), none], [], g)) rfl ?_
            rw [show ((j : Int) + 1) = ((j + 1 : Nat) : Int) by omega]
            exact i1
          · have hc2 : ¬ ((((j : Int)) : Int) = ((a : Int))) := hc2
            omega
      · rw [if_neg (fun q => hc ⟨ja, q⟩)] at vi
        refine sP 2 (g1 := (20, [some (.ref 17), some (.ref 3), some (sI ((a : Int))), some (sI ((s : Int))), some (sI v), some (sI ((kd : Int))), some (sI (((ctW a s j : Nat) : Int))), some (sI ((j : Int))), none], [.ref 3, sI ((j : Int))], g)) rfl ?_
        refine s_get (a := 3) (j := 3) hg rfl ⟨_, rfl⟩ rfl rfl rfl (v := sI ((n : Int))) (by have q := hI_ok hg xw_p; rw [n_g] at q; exact q) ?_
        refine s_icmp (q := .ge) (a := (j : Int)) (b := (n : Int)) rfl ⟨_, rfl⟩ rfl (by unfold sR aMi aMa; omega) (by unfold sR aMi aMa; omega) (fun hc1 => ?_) (fun hc1 => ?_)
        · have hc1 : (((n : Int)) : Int) ≤ ((j : Int)) := hc1
          omega
        · have hc1 : ¬ ((((n : Int)) : Int) ≤ ((j : Int))) := hc1
          refine sP 2 (g1 := (24, [some (.ref 17), some (.ref 3), some (sI ((a : Int))), some (sI ((s : Int))), some (sI v), some (sI ((kd : Int))), some (sI (((ctW a s j : Nat) : Int))), some (sI ((j : Int))), none], [sI ((a : Int)), sI ((j : Int))], g)) rfl ?_
          refine s_icmp (q := .eq) (a := (j : Int)) (b := (a : Int)) rfl ⟨_, rfl⟩ rfl (by unfold sR aMi aMa; omega) (by unfold sR aMi aMa; omega) (fun hc2 => ?_) (fun hc2 => ?_)
          · have hc2 : (((j : Int)) : Int) = ((a : Int)) := hc2
            omega
          · have hc2 : ¬ ((((j : Int)) : Int) = ((a : Int))) := hc2
            refine sP 2 (g1 := (27, [some (.ref 17), some (.ref 3), some (sI ((a : Int))), some (sI ((s : Int))), some (sI v), some (sI ((kd : Int))), some (sI (((ctW a s j : Nat) : Int))), some (sI ((j : Int))), none], [sI ((j : Int)), sI ((s : Int))], g)) rfl ?_
            refine s_call (k := 39) (args := [sI ((s : Int)), sI ((j : Int))]) (st := []) (v := some (sI 0)) (h1 := g) rfl ⟨rfl, rfl⟩ rfl rfl rfl rfl rfl rfl vi ?_
            refine s_ifc (q := .eq) (a := 0) rfl ⟨_, rfl⟩ rfl (by unfold sR aMi aMa; omega) (fun hc3 => ?_) (fun hc3 => ?_)
            · have hc3 : (0 : Int) = 0 := hc3
              refine s_inc (a := (j : Int)) (n := 1) (k := 7) rfl rfl rfl ?_
              refine sP 1 (g1 := (18, [some (.ref 17), some (.ref 3), some (sI ((a : Int))), some (sI ((s : Int))), some (sI v), some (sI ((kd : Int))), some (sI (((ctW a s j : Nat) : Int))), some (sI (((j : Int)) + 1)), none], [], g)) rfl ?_
              rw [show ((j : Int) + 1) = ((j + 1 : Nat) : Int) by omega]
              exact i1
            · have hc3 : ¬ ((0 : Int) = 0) := hc3
              omega
theorem fMfB {g : mH} {kd a s m : Nat} {v : Int} {L : Nat → Nat} (hg : aHp g) (hk : kd < 6) (hm : m ≤ 6) (v0 : 0 ≤ v ∧ v ≤ 9) (hL : ∀ f, L f ≤ 100) (l_g : ∀ f, f < 55 → hI g 18 f = (L f : Int)) : ∀ (c f : Nat), f + c = 55 → nRn sc (d + 3) (mMT mMe89) (mMC mMe89) (48, [some (.ref 17), some (.ref 3), some (sI ((a : Int))), some (sI ((s : Int))), some (sI v), some (sI ((kd : Int))), some (sI ((m : Int))), some (sI (((beW L kd m v f : Nat) : Int))), some (sI ((f : Int)))], [], g) (some (sI (if beW L kd m v 55 = 100 then -9 else ((beW L kd m v 55 : Nat) : Int))), g) := by
  intro c
  induction c with
  | zero =>
    intro f hf
    have e : f = 55 := by omega
    subst e
    have b1 := (beW_le hL kd m v 55).1
    by_cases e1 : beW L kd m v 55 = 100
    · rw [if_pos e1]
      refine sP 2 (g1 := (50, [some (.ref 17), some (.ref 3), some (sI ((a : Int))), some (sI ((s : Int))), some (sI v), some (sI ((kd : Int))), some (sI ((m : Int))), some (sI (((beW L kd m v 55 : Nat) : Int))), some (sI (((55 : Nat) : Int)))], [sI 55, sI (((55 : Nat) : Int))], g)) rfl ?_
      refine s_icmp (q := .ge) (a := ((55 : Nat) : Int)) (b := 55) rfl ⟨_, rfl⟩ rfl (by unfold sR aMi aMa; omega) (by unfold sR aMi aMa; omega) (fun hc1 => ?_) (fun hc1 => ?_)
      · have hc1 : (55 : Int) ≤ (((55 : Nat) : Int)) := hc1
        refine sP 2 (g1 := (68, [some (.ref 17), some (.ref 3), some (sI ((a : Int))), some (sI ((s : Int))), some (sI v), some (sI ((kd : Int))), some (sI ((m : Int))), some (sI (((beW L kd m v 55 : Nat) : Int))), some (sI (((55 : Nat) : Int)))], [sI 100, sI (((beW L kd m v 55 : Nat) : Int))], g)) rfl ?_
        refine s_icmp (q := .ne) (a := ((beW L kd m v 55 : Nat) : Int)) (b := 100) rfl ⟨_, rfl⟩ rfl (by unfold sR aMi aMa; omega) (by unfold sR aMi aMa; omega) (fun hc2 => ?_) (fun hc2 => ?_)
        · have hc2 : ((((beW L kd m v 55 : Nat) : Int)) : Int) ≠ 100 := hc2
          omega
        · have hc2 : ¬ (((((beW L kd m v 55 : Nat) : Int)) : Int) ≠ 100) := hc2
          refine sP 2 (g1 := (72, [some (.ref 17), some (.ref 3), some (sI ((a : Int))), some (sI ((s : Int))), some (sI v), some (sI ((kd : Int))), some (sI ((m : Int))), some (sI (((beW L kd m v 55 : Nat) : Int))), some (sI (((55 : Nat) : Int)))], [sI ((-9))], g)) rfl ?_
          exact s_reti rfl rfl (Or.inl rfl) rfl rfl
      · have hc1 : ¬ ((55 : Int) ≤ (((55 : Nat) : Int))) := hc1
        omega
    · rw [if_neg e1]
      refine sP 2 (g1 := (50, [some (.ref 17), some (.ref 3), some (sI ((a : Int))), some (sI ((s : Int))), some (sI v), some (sI ((kd : Int))), some (sI ((m : Int))), some (sI (((beW L kd m v 55 : Nat) : Int))), some (sI (((55 : Nat) : Int)))], [sI 55, sI (((55 : Nat) : Int))], g)) rfl ?_
      refine s_icmp (q := .ge) (a := ((55 : Nat) : Int)) (b := 55) rfl ⟨_, rfl⟩ rfl (by unfold sR aMi aMa; omega) (by unfold sR aMi aMa; omega) (fun hc1 => ?_) (fun hc1 => ?_)
      · have hc1 : (55 : Int) ≤ (((55 : Nat) : Int)) := hc1
        refine sP 2 (g1 := (68, [some (.ref 17), some (.ref 3), some (sI ((a : Int))), some (sI ((s : Int))), some (sI v), some (sI ((kd : Int))), some (sI ((m : Int))), some (sI (((beW L kd m v 55 : Nat) : Int))), some (sI (((55 : Nat) : Int)))], [sI 100, sI (((beW L kd m v 55 : Nat) : Int))], g)) rfl ?_
        refine s_icmp (q := .ne) (a := ((beW L kd m v 55 : Nat) : Int)) (b := 100) rfl ⟨_, rfl⟩ rfl (by unfold sR aMi aMa; omega) (by unfold sR aMi aMa; omega) (fun hc2 => ?_) (fun hc2 => ?_)
        · have hc2 : ((((beW L kd m v 55 : Nat) : Int)) : Int) ≠ 100 := hc2
          refine sP 1 (g1 := (72, [some (.ref 17), some (.ref 3), some (sI ((a : Int))), some (sI ((s : Int))), some (sI v), some (sI ((kd : Int))), some (sI ((m : Int))), some (sI (((beW L kd m v 55 : Nat) : Int))), some (sI (((55 : Nat) : Int)))], [sI (((beW L kd m v 55 : Nat) : Int))], g)) rfl ?_
          exact s_reti rfl rfl (Or.inl rfl) rfl rfl
        · have hc2 : ¬ (((((beW L kd m v 55 : Nat) : Int)) : Int) ≠ 100) := hc2
          omega
      · have hc1 : ¬ ((55 : Int) ≤ (((55 : Nat) : Int))) := hc1
        omega
  | succ c ih =>
    intro f hf
    have i1 := ih (f + 1) (by omega)
    have b1 := (beW_le hL kd m v f).1
    have lf := hL f
    have pt := pTe_rg (kd := kd) (c := m) (f := (f : Int)) (by omega) (by omega)
    have et := fTell (sc := sc) (d := d + 1) (h := g) (kd := kd) (c := m) (f := (f : Int)) hk (by omega) (by omega) hm
    have eb : beW L kd m v (f + 1) = if pTe kd (f : Int) m = v then min (beW L kd m v f) (L f) else beW L kd m v f := rfl
    by_cases ev : pTe kd (f : Int) m = v
    · rw [eb, if_pos ev] at i1
      have em := fMin (sc := sc) (d := d + 2) (h := g) (a := ((beW L kd m v f : Nat) : Int)) (b := (L f : Int)) (by omega) (by omega) (by omega) (by omega)
      rw [show min ((beW L kd m v f : Nat) : Int) (L f : Int) = ((min (beW L kd m v f) (L f) : Nat) : Int) by omega] at em
      refine sP 2 (g1 := (50, [some (.ref 17), some (.ref 3), some (sI ((a : Int))), some (sI ((s : Int))), some (sI v), some (sI ((kd : Int))), some (sI ((m : Int))), some (sI (((beW L kd m v f : Nat) : Int))), some (sI ((f : Int)))], [sI 55, sI ((f : Int))], g)) rfl ?_
      refine s_icmp (q := .ge) (a := (f : Int)) (b := 55) rfl ⟨_, rfl⟩ rfl (by unfold sR aMi aMa; omega) (by unfold sR aMi aMa; omega) (fun hc1 => ?_) (fun hc1 => ?_)
      · have hc1 : (55 : Int) ≤ ((f : Int)) := hc1
        omega
      · have hc1 : ¬ ((55 : Int) ≤ ((f : Int))) := hc1
        refine sP 3 (g1 := (54, [some (.ref 17), some (.ref 3), some (sI ((a : Int))), some (sI ((s : Int))), some (sI v), some (sI ((kd : Int))), some (sI ((m : Int))), some (sI (((beW L kd m v f : Nat) : Int))), some (sI ((f : Int)))], [sI ((m : Int)), sI ((f : Int)), sI ((kd : Int))], g)) rfl ?_
        refine s_call (k := 44) (args := [sI ((kd : Int)), sI ((f : Int)), sI ((m : Int))]) (st := []) (v := some (sI (pTe kd (f : Int) m))) (h1 := g) rfl ⟨rfl, rfl⟩ rfl rfl rfl rfl rfl rfl et ?_
        refine sP 1 (g1 := (56, [some (.ref 17), some (.ref 3), some (sI ((a : Int))), some (sI ((s : Int))), some (sI v), some (sI ((kd : Int))), some (sI ((m : Int))), some (sI (((beW L kd m v f : Nat) : Int))), some (sI ((f : Int)))], [sI v, sI (pTe kd (f : Int) m)], g)) rfl ?_
        refine s_icmp (q := .ne) (a := pTe kd (f : Int) m) (b := v) rfl ⟨_, rfl⟩ rfl (by unfold sR aMi aMa; omega) (by unfold sR aMi aMa; omega) (fun hc2 => ?_) (fun hc2 => ?_)
        · have hc2 : ((pTe kd (f : Int) m) : Int) ≠ v := hc2
          omega
        · have hc2 : ¬ (((pTe kd (f : Int) m) : Int) ≠ v) := hc2
          refine sP 2 (g1 := (59, [some (.ref 17), some (.ref 3), some (sI ((a : Int))), some (sI ((s : Int))), some (sI v), some (sI ((kd : Int))), some (sI ((m : Int))), some (sI (((beW L kd m v f : Nat) : Int))), some (sI ((f : Int)))], [.ref 17, sI (((beW L kd m v f : Nat) : Int))], g)) rfl ?_
          refine s_get (a := 17) (j := 0) hg rfl ⟨_, rfl⟩ rfl rfl rfl (v := .ref 18) (hR_ok hg (by decide +kernel)) ?_
          refine sP 1 (g1 := (61, [some (.ref 17), some (.ref 3), some (sI ((a : Int))), some (sI ((s : Int))), some (sI v), some (sI ((kd : Int))), some (sI ((m : Int))), some (sI (((beW L kd m v f : Nat) : Int))), some (sI ((f : Int)))], [sI ((f : Int)), .ref 18, sI (((beW L kd m v f : Nat) : Int))], g)) rfl ?_
          refine s_iald (a := 18) (n := 55) (j := (f : Int)) hg rfl rfl rfl (by omega) (by omega) (by decide) (v := sI ((L f : Int))) (by rw [Int.toNat_natCast]; have q := hI_ok hg (z18 (show f < 55 by omega)); rw [l_g _ (by omega)] at q; exact q) ?_
          refine s_call (k := 43) (args := [sI (((beW L kd m v f : Nat) : Int)), sI ((L f : Int))]) (st := []) (v := some (sI (((min (beW L kd m v f) (L f) : Nat) : Int)))) (h1 := g) rfl ⟨rfl, rfl⟩ rfl rfl rfl rfl rfl rfl em ?_
          refine sP 1 (g1 := (64, [some (.ref 17), some (.ref 3), some (sI ((a : Int))), some (sI ((s : Int))), some (sI v), some (sI ((kd : Int))), some (sI ((m : Int))), some (sI (((min (beW L kd m v f) (L f) : Nat) : Int))), some (sI ((f : Int)))], [], g)) rfl ?_
          refine s_inc (a := (f : Int)) (n := 1) (k := 8) rfl rfl rfl ?_
          refine sP 1 (g1 := (48, [some (.ref 17), some (.ref 3), some (sI ((a : Int))), some (sI ((s : Int))), some (sI v), some (sI ((kd : Int))), some (sI ((m : Int))), some (sI (((min (beW L kd m v f) (L f) : Nat) : Int))), some (sI (((f : Int)) + 1))], [], g)) rfl ?_
          rw [show ((f : Int) + 1) = ((f + 1 : Nat) : Int) by omega]
          exact i1
    · rw [eb, if_neg ev] at i1
      refine sP 2 (g1 := (50, [some (.ref 17), some (.ref 3), some (sI ((a : Int))), some (sI ((s : Int))), some (sI v), some (sI ((kd : Int))), some (sI ((m : Int))), some (sI (((beW L kd m v f : Nat) : Int))), some (sI ((f : Int)))], [sI 55, sI ((f : Int))], g)) rfl ?_
      refine s_icmp (q := .ge) (a := (f : Int)) (b := 55) rfl ⟨_, rfl⟩ rfl (by unfold sR aMi aMa; omega) (by unfold sR aMi aMa; omega) (fun hc1 => ?_) (fun hc1 => ?_)
      · have hc1 : (55 : Int) ≤ ((f : Int)) := hc1
        omega
      · have hc1 : ¬ ((55 : Int) ≤ ((f : Int))) := hc1
        refine sP 3 (g1 := (54, [some (.ref 17), some (.ref 3), some (sI ((a : Int))), some (sI ((s : Int))), some (sI v), some (sI ((kd : Int))), some (sI ((m : Int))), some (sI (((beW L kd m v f : Nat) : Int))), some (sI ((f : Int)))], [sI ((m : Int)), sI ((f : Int)), sI ((kd : Int))], g)) rfl ?_
        refine s_call (k := 44) (args := [sI ((kd : Int)), sI ((f : Int)), sI ((m : Int))]) (st := []) (v := some (sI (pTe kd (f : Int) m))) (h1 := g) rfl ⟨rfl, rfl⟩ rfl rfl rfl rfl rfl rfl et ?_
        refine sP 1 (g1 := (56, [some (.ref 17), some (.ref 3), some (sI ((a : Int))), some (sI ((s : Int))), some (sI v), some (sI ((kd : Int))), some (sI ((m : Int))), some (sI (((beW L kd m v f : Nat) : Int))), some (sI ((f : Int)))], [sI v, sI (pTe kd (f : Int) m)], g)) rfl ?_
        refine s_icmp (q := .ne) (a := pTe kd (f : Int) m) (b := v) rfl ⟨_, rfl⟩ rfl (by unfold sR aMi aMa; omega) (by unfold sR aMi aMa; omega) (fun hc2 => ?_) (fun hc2 => ?_)
        · have hc2 : ((pTe kd (f : Int) m) : Int) ≠ v := hc2
          refine s_inc (a := (f : Int)) (n := 1) (k := 8) rfl rfl rfl ?_
          refine sP 1 (g1 := (48, [some (.ref 17), some (.ref 3), some (sI ((a : Int))), some (sI ((s : Int))), some (sI v), some (sI ((kd : Int))), some (sI ((m : Int))), some (sI (((beW L kd m v f : Nat) : Int))), some (sI (((f : Int)) + 1))], [], g)) rfl ?_
          rw [show ((f : Int) + 1) = ((f + 1 : Nat) : Int) by omega]
          exact i1
        · have hc2 : ¬ (((pTe kd (f : Int) m) : Int) ≠ v) := hc2
          omega
theorem fMfX {h : mH} {n kd a s : Nat} {v : Int} (hh : aHp h) (n_h : hI h 3 3 = (n : Int)) (ha : a < 6) (hs : s < 64) (hkd : hI h 4 a = (kd : Int)) (v0 : 0 ≤ v ∧ v ≤ 9) : ∃ (g : mH) (L : Nat → Nat), nEv sc (d + 4) 89 [.ref 17, .ref 3, sI (a : Int), sI (s : Int), sI v] h (some (sI (if beW L kd (ctW a s n) v 55 = 100 then -9 else ((beW L kd (ctW a s n) v 55 : Nat) : Int))), g) ∧ aHp g ∧ (∀ p m, p ≠ 18 → p ≠ 19 → aSlot g p m = aSlot h p m) ∧ dpW (hI h 5) kd a s n n L := by
  have gp := hI_rg hh xw_p
  have gk := hI_rg hh (xw_k ha)
  have hG : ∀ j, j < 36 → 0 ≤ hI h 5 j ∧ hI h 5 j ≤ 9 := eG (e := 3) hh (by decide)
  obtain ⟨g1, ef, hg1, sg1⟩ := fFillG (sc := sc) (d := d + 2) (p := 18) (n := 55) (v := 100) (h := h) rfl (by decide) (fun g j hg hj => hset_ii hg (z18i hj) (by omega) (by omega) (by unfold sR aMi aMa; omega)) hh
  obtain ⟨g2, eg2⟩ : ∃ gz, gz = hset g1 18 0 (sI 0) := ⟨_, rfl⟩
  have sg2 : ∀ xa xm, aSlot g2 xa xm = if xa = 18 ∧ xm = 0 then some (sI 0) else aSlot g1 xa xm := fun xa xm => by rw [eg2]; exact hset_slot hg1 (show sTg 18 = some (50, 55) from rfl) (by omega) xa xm
  have hg2 : aHp g2 := by rw [eg2]; exact hset_ii hg1 (z18i (by omega)) (by omega) (by omega) (by unfold sR aMi aMa; omega)
  have l2 : ∀ f, f < 55 → hI g2 18 f = ((if f = 0 then 0 else 100 : Nat) : Int) := fun f hf => by
    by_cases e : f = 0
    · rw [if_pos e, e]
      exact hI_si (by rw [sg2, if_pos ⟨rfl, rfl⟩]; rfl) (by unfold sR aMi aMa; omega)
    · rw [if_neg e]
      exact hI_si (by rw [sg2, if_neg (by omega), sg1, if_pos ⟨rfl, hf⟩]; rfl) (by unfold sR aMi aMa; omega)
  obtain ⟨g3, L, i1, hg3, i3, i4, i5⟩ := fMfL (sc := sc) (d := d) (v := v) (kd := kd) hh (by omega) ha hs (by omega) n_h n 0 g2 _ (by omega) hg2 (fun p m w1 w2 => by rw [sg2, if_neg (by omega), sg1, if_neg (by omega)]) l2 (dp_0 hG)
  have i1 : ∀ q, nRn sc (d + 3) (mMT mMe89) (mMC mMe89) (44, [some (.ref 17), some (.ref 3), some (sI ((a : Int))), some (sI ((s : Int))), some (sI v), some (sI ((kd : Int))), some (sI (((ctW a s n : Nat) : Int))), some (sI ((n : Int))), none], [], g3) q → nRn sc (d + 3) (mMT mMe89) (mMC mMe89) (18, [some (.ref 17), some (.ref 3), some (sI ((a : Int))), some (sI ((s : Int))), some (sI v), some (sI ((kd : Int))), some (sI 0), some (sI 0), none], [], g2) q := i1
  have j1 := fMfB (sc := sc) (d := d) (a := a) (s := s) (kd := kd) (m := ctW a s n) (v := v) hg3 (by omega) (by have := ctW_le a s n; omega) v0 i5.1 i4 55 0 (by omega)
  have j1 : nRn sc (d + 3) (mMT mMe89) (mMC mMe89) (48, [some (.ref 17), some (.ref 3), some (sI ((a : Int))), some (sI ((s : Int))), some (sI v), some (sI ((kd : Int))), some (sI (((ctW a s n : Nat) : Int))), some (sI 100), some (sI 0)], [], g3) (some (sI (if beW L kd (ctW a s n) v 55 = 100 then -9 else ((beW L kd (ctW a s n) v 55 : Nat) : Int))), g3) := j1
  refine ⟨g3, L, nEv_of (t := mMe89) rfl ?_, hg3, i3, i5⟩
  show nRn sc (d + 3) (mMT mMe89) (mMC mMe89) (0, [some (.ref 17), some (.ref 3), some (sI ((a : Int))), some (sI ((s : Int))), some (sI v), none, none, none, none], [], h) _
  refine sP 1 (g1 := (1, [some (.ref 17), some (.ref 3), some (sI ((a : Int))), some (sI ((s : Int))), some (sI v), none, none, none, none], [.ref 3], h)) rfl ?_
  refine s_get (a := 3) (j := 0) hh rfl ⟨_, rfl⟩ rfl rfl rfl (v := .ref 4) (hR_ok hh (by decide +kernel)) ?_
  refine sP 1 (g1 := (3, [some (.ref 17), some (.ref 3), some (sI ((a : Int))), some (sI ((s : Int))), some (sI v), none, none, none, none], [sI ((a : Int)), .ref 4], h)) rfl ?_
  refine s_iald (a := 4) (n := 6) (j := (a : Int)) hh rfl rfl rfl (by omega) (by omega) (by decide) (v := sI ((kd : Int))) (by rw [Int.toNat_natCast]; have q := hI_ok hh (xw_k ha); rw [hkd] at q; exact q) ?_
  refine sP 4 (g1 := (8, [some (.ref 17), some (.ref 3), some (sI ((a : Int))), some (sI ((s : Int))), some (sI v), some (sI ((kd : Int))), some (sI 0), none, none], [.ref 17], h)) rfl ?_
  refine s_get (a := 17) (j := 0) hh rfl ⟨_, rfl⟩ rfl rfl rfl (v := .ref 18) (hR_ok hh (by decide +kernel)) ?_
  refine sP 1 (g1 := (10, [some (.ref 17), some (.ref 3), some (sI ((a : Int))), some (sI ((s : Int))), some (sI v), some (sI ((kd : Int))), some (sI 0), none, none], [sI 100, .ref 18], h)) rfl ?_
  refine s_call (k := 11) (args := [.ref 18, sI 100]) (st := []) (v := none) (h1 := g1) rfl ⟨rfl, rfl⟩ rfl rfl rfl rfl rfl rfl ef ?_
  refine sP 1 (g1 := (12, [some (.ref 17), some (.ref 3), some (sI ((a : Int))), some (sI ((s : Int))), some (sI v), some (sI ((kd : Int))), some (sI 0), none, none], [.ref 17], g1)) rfl ?_
  refine s_get (a := 17) (j := 0) hg1 rfl ⟨_, rfl⟩ rfl rfl rfl (v := .ref 18) (hR_ok hg1 (by decide +kernel)) ?_
  refine sP 2 (g1 := (15, [some (.ref 17), some (.ref 3), some (sI ((a : Int))), some (sI ((s : Int))), some (sI v), some (sI ((kd : Int))), some (sI 0), none, none], [sI 0, sI 0, .ref 18], g1)) rfl ?_
  refine s_iast (a := 18) (n := 55) (j := 0) hg1 rfl rfl (show sTg 18 = some (50, 55) from rfl) (by omega) (by omega) (by decide) ?_
  rw [show (0 : Int).toNat = 0 by omega]
  rw [← eg2]
  refine sP 2 (g1 := (18, [some (.ref 17), some (.ref 3), some (sI ((a : Int))), some (sI ((s : Int))), some (sI v), some (sI ((kd : Int))), some (sI 0), some (sI 0), none], [], g2)) rfl ?_
  refine i1 _ ?_
  refine sP 4 (g1 := (48, [some (.ref 17), some (.ref 3), some (sI ((a : Int))), some (sI ((s : Int))), some (sI v), some (sI ((kd : Int))), some (sI (((ctW a s n : Nat) : Int))), some (sI 100), some (sI 0)], [], g3)) rfl ?_
  exact j1
end MEETX
section MTGS
variable {sc : List Int32} {d : Nat} {h : mH}
theorem fMtXb0 {a s v : Int} (hh : aHp h) (ra : sR a) (rs : sR s) (rv : sR v) (hc : ¬ (0 ≤ a ∧ a < hI h 3 3)) : nEv sc (d + 5) 88 [.ref 0, sI a, sI s, sI v] h (some (sI (-1)), h) := by
  have gp := hI_rg hh xw_p
  unfold sR aMi aMa at ra rs rv
  refine nEv_of (t := mMe88) rfl ?_
  show nRn sc (d + 4) (mMT mMe88) (mMC mMe88) (0, [some (.ref 0), some (sI a), some (sI s), some (sI v)], [], h) _
  refine sP 1 (g1 := (1, [some (.ref 0), some (sI a), some (sI s), some (sI v)], [.ref 0], h)) rfl ?_
  refine s_get (a := 0) (j := 2) hh rfl ⟨_, rfl⟩ rfl rfl rfl (v := .ref 3) (hR_ok hh (by decide +kernel)) ?_
  refine sP 1 (g1 := (3, [some (.ref 0), some (sI a), some (sI s), some (sI v)], [sI a, .ref 3], h)) rfl ?_
  have ev1 := fHasX (sc := sc) (d := d + 3) (a := a) hh (by unfold sR aMi aMa; omega)
  rw [if_neg (by omega)] at ev1
  refine s_call (k := 35) (args := [.ref 3, sI a]) (st := []) (v := some (sI 0)) (h1 := h) rfl ⟨rfl, rfl⟩ rfl rfl rfl rfl (sRcv hh (a := 3) rfl rfl) rfl ev1 ?_
  refine s_ifc (q := .eq) (a := 0) rfl ⟨_, rfl⟩ rfl (by unfold sR aMi aMa; omega) (fun hc2 => ?_) (fun hc2 => ?_)
  · have hc2 : (0 : Int) = 0 := hc2
    refine sP 1 (g1 := (16, [some (.ref 0), some (sI a), some (sI s), some (sI v)], [sI ((-1))], h)) rfl ?_
    exact s_reti rfl rfl (Or.inl rfl) rfl rfl
  · have hc2 : ¬ ((0 : Int) = 0) := hc2
    omega
theorem fMtXb1 {a s v : Int} {n : Nat} (hh : aHp h) (hn : hI h 3 3 = (n : Int)) (ra : sR a) (rs : sR s) (rv : sR v) (hc : (0 ≤ a ∧ a < hI h 3 3) ∧ ¬ (0 ≤ s ∧ s < ((2 ^ n : Nat) : Int))) : nEv sc (d + 5) 88 [.ref 0, sI a, sI s, sI v] h (some (sI (-1)), h) := by
  have gp := hI_rg hh xw_p
  have p2 := p2_le (show n ≤ 6 by omega)
  unfold sR aMi aMa at ra rs rv
  refine nEv_of (t := mMe88) rfl ?_
  show nRn sc (d + 4) (mMT mMe88) (mMC mMe88) (0, [some (.ref 0), some (sI a), some (sI s), some (sI v)], [], h) _
  refine sP 1 (g1 := (1, [some (.ref 0), some (sI a), some (sI s), some (sI v)], [.ref 0], h)) rfl ?_
  refine s_get (a := 0) (j := 2) hh rfl ⟨_, rfl⟩ rfl rfl rfl (v := .ref 3) (hR_ok hh (by decide +kernel)) ?_
  refine sP 1 (g1 := (3, [some (.ref 0), some (sI a), some (sI s), some (sI v)], [sI a, .ref 3], h)) rfl ?_
  have ev1 := fHasX (sc := sc) (d := d + 3) (a := a) hh (by unfold sR aMi aMa; omega)
  rw [if_pos (by omega)] at ev1
  refine s_call (k := 35) (args := [.ref 3, sI a]) (st := []) (v := some (sI 1)) (h1 := h) rfl ⟨rfl, rfl⟩ rfl rfl rfl rfl (sRcv hh (a := 3) rfl rfl) rfl ev1 ?_
  refine s_ifc (q := .eq) (a := 1) rfl ⟨_, rfl⟩ rfl (by unfold sR aMi aMa; omega) (fun hc2 => ?_) (fun hc2 => ?_)
  · have hc2 : (1 : Int) = 0 := hc2
    omega
  · have hc2 : ¬ ((1 : Int) = 0) := hc2
    refine sP 1 (g1 := (6, [some (.ref 0), some (sI a), some (sI s), some (sI v)], [.ref 0], h)) rfl ?_
    refine s_get (a := 0) (j := 2) hh rfl ⟨_, rfl⟩ rfl rfl rfl (v := .ref 3) (hR_ok hh (by decide +kernel)) ?_
    refine sP 1 (g1 := (8, [some (.ref 0), some (sI a), some (sI s), some (sI v)], [sI s, .ref 3], h)) rfl ?_
    have ev3 := fHasSet (sc := sc) (d := d + 3) (n := n) (s := s) hh hn (by unfold sR aMi aMa; omega)
    rw [if_neg (by omega)] at ev3
    refine s_call (k := 76) (args := [.ref 3, sI s]) (st := []) (v := some (sI 0)) (h1 := h) rfl ⟨rfl, rfl⟩ rfl rfl rfl rfl (sRcv hh (a := 3) rfl rfl) rfl ev3 ?_
    refine s_ifc (q := .eq) (a := 0) rfl ⟨_, rfl⟩ rfl (by unfold sR aMi aMa; omega) (fun hc4 => ?_) (fun hc4 => ?_)
    · have hc4 : (0 : Int) = 0 := hc4
      refine sP 1 (g1 := (16, [some (.ref 0), some (sI a), some (sI s), some (sI v)], [sI ((-1))], h)) rfl ?_
      exact s_reti rfl rfl (Or.inl rfl) rfl rfl
    · have hc4 : ¬ ((0 : Int) = 0) := hc4
      omega
theorem fMtXb2 {a s v : Int} {n : Nat} (hh : aHp h) (hn : hI h 3 3 = (n : Int)) (ra : sR a) (rs : sR s) (rv : sR v) (hc : (0 ≤ a ∧ a < hI h 3 3) ∧ (0 ≤ s ∧ s < ((2 ^ n : Nat) : Int)) ∧ ¬ (0 ≤ v ∧ v ≤ 9)) : nEv sc (d + 5) 88 [.ref 0, sI a, sI s, sI v] h (some (sI (-1)), h) := by
  have gp := hI_rg hh xw_p
  have p2 := p2_le (show n ≤ 6 by omega)
  unfold sR aMi aMa at ra rs rv
  refine nEv_of (t := mMe88) rfl ?_
  show nRn sc (d + 4) (mMT mMe88) (mMC mMe88) (0, [some (.ref 0), some (sI a), some (sI s), some (sI v)], [], h) _
  refine sP 1 (g1 := (1, [some (.ref 0), some (sI a), some (sI s), some (sI v)], [.ref 0], h)) rfl ?_
  refine s_get (a := 0) (j := 2) hh rfl ⟨_, rfl⟩ rfl rfl rfl (v := .ref 3) (hR_ok hh (by decide +kernel)) ?_
  refine sP 1 (g1 := (3, [some (.ref 0), some (sI a), some (sI s), some (sI v)], [sI a, .ref 3], h)) rfl ?_
  have ev1 := fHasX (sc := sc) (d := d + 3) (a := a) hh (by unfold sR aMi aMa; omega)
  rw [if_pos (by omega)] at ev1
  refine s_call (k := 35) (args := [.ref 3, sI a]) (st := []) (v := some (sI 1)) (h1 := h) rfl ⟨rfl, rfl⟩ rfl rfl rfl rfl (sRcv hh (a := 3) rfl rfl) rfl ev1 ?_
  refine s_ifc (q := .eq) (a := 1) rfl ⟨_, rfl⟩ rfl (by unfold sR aMi aMa; omega) (fun hc2 => ?_) (fun hc2 => ?_)
  · have hc2 : (1 : Int) = 0 := hc2
    omega
  · have hc2 : ¬ ((1 : Int) = 0) := hc2
    refine sP 1 (g1 := (6, [some (.ref 0), some (sI a), some (sI s), some (sI v)], [.ref 0], h)) rfl ?_
    refine s_get (a := 0) (j := 2) hh rfl ⟨_, rfl⟩ rfl rfl rfl (v := .ref 3) (hR_ok hh (by decide +kernel)) ?_
    refine sP 1 (g1 := (8, [some (.ref 0), some (sI a), some (sI s), some (sI v)], [sI s, .ref 3], h)) rfl ?_
    have ev3 := fHasSet (sc := sc) (d := d + 3) (n := n) (s := s) hh hn (by unfold sR aMi aMa; omega)
    rw [if_pos (by omega)] at ev3
    refine s_call (k := 76) (args := [.ref 3, sI s]) (st := []) (v := some (sI 1)) (h1 := h) rfl ⟨rfl, rfl⟩ rfl rfl rfl rfl (sRcv hh (a := 3) rfl rfl) rfl ev3 ?_
    refine s_ifc (q := .eq) (a := 1) rfl ⟨_, rfl⟩ rfl (by unfold sR aMi aMa; omega) (fun hc4 => ?_) (fun hc4 => ?_)
    · have hc4 : (1 : Int) = 0 := hc4
      omega
    · have hc4 : ¬ ((1 : Int) = 0) := hc4
      refine sP 1 (g1 := (11, [some (.ref 0), some (sI a), some (sI s), some (sI v)], [sI v], h)) rfl ?_
      refine s_ifc (q := .lt) (a := v) rfl ⟨_, rfl⟩ rfl (by unfold sR aMi aMa; omega) (fun hc5 => ?_) (fun hc5 => ?_)
      · have hc5 : (v : Int) < 0 := hc5
        refine sP 1 (g1 := (16, [some (.ref 0), some (sI a), some (sI s), some (sI v)], [sI ((-1))], h)) rfl ?_
        exact s_reti rfl rfl (Or.inl rfl) rfl rfl
      · have hc5 : ¬ ((v : Int) < 0) := hc5
        refine sP 2 (g1 := (14, [some (.ref 0), some (sI a), some (sI s), some (sI v)], [sI 9, sI v], h)) rfl ?_
        refine s_icmp (q := .le) (a := v) (b := 9) rfl ⟨_, rfl⟩ rfl (by unfold sR aMi aMa; omega) (by unfold sR aMi aMa; omega) (fun hc6 => ?_) (fun hc6 => ?_)
        · have hc6 : (v : Int) ≤ 9 := hc6
          omega
        · have hc6 : ¬ ((v : Int) ≤ 9) := hc6
          refine sP 1 (g1 := (16, [some (.ref 0), some (sI a), some (sI s), some (sI v)], [sI ((-1))], h)) rfl ?_
          exact s_reti rfl rfl (Or.inl rfl) rfl rfl
theorem fMtX {n a s : Nat} {v z : Int} {g : mH} (hh : aHp h) (hn : hI h 3 3 = n) (ha : a < n) (hs : s < 2 ^ n) (v0 : 0 ≤ v ∧ v ≤ 9) (ev : nEv sc (d + 4) 89 [.ref 17, .ref 3, sI (a : Int), sI (s : Int), sI v] h (some (sI z), g)) (hg : aHp g) : nEv sc (d + 5) 88 [.ref 0, sI (a : Int), sI (s : Int), sI v] h (some (sI z), g) := by
  have gp := hI_rg hh xw_p
  have p2 := p2_le (show n ≤ 6 by omega)
  refine nEv_of (t := mMe88) rfl ?_
  show nRn sc (d + 4) (mMT mMe88) (mMC mMe88) (0, [some (.ref 0), some (sI ((a : Int))), some (sI ((s : Int))), some (sI v)], [], h) _
  refine sP 1 (g1 := (1, [some (.ref 0), some (sI ((a : Int))), some (sI ((s : Int))), some (sI v)], [.ref 0], h)) rfl ?_
  refine s_get (a := 0) (j := 2) hh rfl ⟨_, rfl⟩ rfl rfl rfl (v := .ref 3) (hR_ok hh (by decide +kernel)) ?_
  refine sP 1 (g1 := (3, [some (.ref 0), some (sI ((a : Int))), some (sI ((s : Int))), some (sI v)], [sI ((a : Int)), .ref 3], h)) rfl ?_
  have ev1 := fHasX (sc := sc) (d := d + 3) (a := (a : Int)) hh (by unfold sR aMi aMa; omega)
  rw [if_pos (by omega)] at ev1
  refine s_call (k := 35) (args := [.ref 3, sI ((a : Int))]) (st := []) (v := some (sI 1)) (h1 := h) rfl ⟨rfl, rfl⟩ rfl rfl rfl rfl (sRcv hh (a := 3) rfl rfl) rfl ev1 ?_
  refine s_ifc (q := .eq) (a := 1) rfl ⟨_, rfl⟩ rfl (by unfold sR aMi aMa; omega) (fun hc2 => ?_) (fun hc2 => ?_)
  · have hc2 : (1 : Int) = 0 := hc2
    omega
  · have hc2 : ¬ ((1 : Int) = 0) := hc2
    refine sP 1 (g1 := (6, [some (.ref 0), some (sI ((a : Int))), some (sI ((s : Int))), some (sI v)], [.ref 0], h)) rfl ?_
    refine s_get (a := 0) (j := 2) hh rfl ⟨_, rfl⟩ rfl rfl rfl (v := .ref 3) (hR_ok hh (by decide +kernel)) ?_
    refine sP 1 (g1 := (8, [some (.ref 0), some (sI ((a : Int))), some (sI ((s : Int))), some (sI v)], [sI ((s : Int)), .ref 3], h)) rfl ?_
    have ev3 := fHasSet (sc := sc) (d := d + 3) (n := n) (s := (s : Int)) hh hn (by unfold sR aMi aMa; omega)
    rw [if_pos (by omega)] at ev3
    refine s_call (k := 76) (args := [.ref 3, sI ((s : Int))]) (st := []) (v := some (sI 1)) (h1 := h) rfl ⟨rfl, rfl⟩ rfl rfl rfl rfl (sRcv hh (a := 3) rfl rfl) rfl ev3 ?_
    refine s_ifc (q := .eq) (a := 1) rfl ⟨_, rfl⟩ rfl (by unfold sR aMi aMa; omega) (fun hc4 => ?_) (fun hc4 => ?_)
    · have hc4 : (1 : Int) = 0 := hc4
      omega
    · have hc4 : ¬ ((1 : Int) = 0) := hc4
      refine sP 1 (g1 := (11, [some (.ref 0), some (sI ((a : Int))), some (sI ((s : Int))), some (sI v)], [sI v], h)) rfl ?_
      refine s_ifc (q := .lt) (a := v) rfl ⟨_, rfl⟩ rfl (by unfold sR aMi aMa; omega) (fun hc5 => ?_) (fun hc5 => ?_)
      · have hc5 : (v : Int) < 0 := hc5
        omega
      · have hc5 : ¬ ((v : Int) < 0) := hc5
        refine sP 2 (g1 := (14, [some (.ref 0), some (sI ((a : Int))), some (sI ((s : Int))), some (sI v)], [sI 9, sI v], h)) rfl ?_
        refine s_icmp (q := .le) (a := v) (b := 9) rfl ⟨_, rfl⟩ rfl (by unfold sR aMi aMa; omega) (by unfold sR aMi aMa; omega) (fun hc6 => ?_) (fun hc6 => ?_)
        · have hc6 : (v : Int) ≤ 9 := hc6
          refine sP 1 (g1 := (18, [some (.ref 0), some (sI ((a : Int))), some (sI ((s : Int))), some (sI v)], [.ref 0], h)) rfl ?_
          refine s_get (a := 0) (j := 6) hh rfl ⟨_, rfl⟩ rfl rfl rfl (v := .ref 17) (hR_ok hh (by decide +kernel)) ?_
          refine sP 1 (g1 := (20, [some (.ref 0), some (sI ((a : Int))), some (sI ((s : Int))), some (sI v)], [.ref 0, .ref 17], h)) rfl ?_
          refine s_get (a := 0) (j := 2) hh rfl ⟨_, rfl⟩ rfl rfl rfl (v := .ref 3) (hR_ok hh (by decide +kernel)) ?_
          refine sP 3 (g1 := (24, [some (.ref 0), some (sI ((a : Int))), some (sI ((s : Int))), some (sI v)], [sI v, sI ((s : Int)), sI ((a : Int)), .ref 3, .ref 17], h)) rfl ?_
          refine s_call (k := 89) (args := [.ref 17, .ref 3, sI ((a : Int)), sI ((s : Int)), sI v]) (st := []) (v := some (sI z)) (h1 := g) rfl ⟨rfl, rfl⟩ rfl rfl rfl rfl (sRcv hh (a := 17) rfl rfl) rfl ev ?_
          exact s_reti rfl rfl (Or.inl rfl) rfl rfl
        · have hc6 : ¬ ((v : Int) ≤ 9) := hc6
          omega
end MTGS
theorem wMtgE {sc : List Int32} {h : mH} (x y w : Int32) (hp : wP h) : ∃ z1 h1 z2 h2, nEv sc 100 88 (.ref 0 :: [x, y, w].map Value.int) h (some (.int z1), h1) ∧ aHp h1 ∧ nEv sc 100 194 (.ref 53 :: [x, y, w].map Value.int) h1 (some (.int z2), h2) ∧ wP h2 ∧ z2 = z1 := by
  have hh := wP_a h hp
  have rx : sR x.toInt := aI_rg x
  have ry : sR y.toInt := aI_rg y
  have rw_ : sR w.toInt := aI_rg w
  have nr := hp.2.1
  have e3 : hI h 3 3 = hI h 58 0 := nr.1
  have gp := hI_rg hh xw_p
  obtain ⟨n, en⟩ := iN gp.1
  have pk : ∀ {va : Int} {h1 h2 : mH}, nEv sc 100 88 [.ref 0, sI x.toInt, sI y.toInt, sI w.toInt] h (some (sI va), h1) → aHp h1 → nEv sc 100 194 [.ref 53, sI x.toInt, sI y.toInt, sI w.toInt] h1 (some (sI va), h2) → wP h2 → ∃ z1 h1 z2 h2, nEv sc 100 88 (.ref 0 :: [x, y, w].map Value.int) h (some (.int z1), h1) ∧ aHp h1 ∧ nEv sc 100 194 (.ref 53 :: [x, y, w].map Value.int) h1 (some (.int z2), h2) ∧ wP h2 ∧ z2 = z1 := fun a1 a2 a3 a4 => by
    rw [← sI_of x, ← sI_of y, ← sI_of w] at a1 a3
    exact ⟨_, _, _, _, a1, a2, a3, a4, rfl⟩
  by_cases c1 : 0 ≤ x.toInt ∧ x.toInt < hI h 3 3
  · by_cases c2 : 0 ≤ y.toInt ∧ y.toInt < ((2 ^ n : Nat) : Int)
    · by_cases c3 : 0 ≤ w.toInt ∧ w.toInt ≤ 9
      · obtain ⟨a, ea⟩ := iN c1.1
        obtain ⟨s, es⟩ := iN c2.1
        have ha6 : a < 6 := by omega
        have p2 := p2_le (show n ≤ 6 by omega)
        obtain ⟨kd, ek⟩ := iN (hI_rg hh (xw_k ha6)).1
        have ekm : hI h 58 (1 + a) = (kd : Int) := by rw [← (nr.2.2.2.1 a (by omega)).1]; exact ek
        obtain ⟨g, L, x1, x2, x3, x4⟩ := fMfX (sc := sc) (d := 95) (v := w.toInt) (s := s) hh en ha6 (by omega) ek c3
        have k8 : ∀ m, hI g 58 m = hI h 58 m := fun m => hI_cg (x3 58 m (by omega) (by omega))
        obtain ⟨g2, y1, y2, y3⟩ := fMmt (sc := sc) (d := 96) (n := n) (kd := kd) (a := a) (s := s) (v := w.toInt) x2 (by rw [k8]; omega) (by omega) (by omega) c3 (by rw [k8]; exact ekm)
        have hGM : ∀ j, j < 36 → 0 ≤ hI h 58 (7 + j) ∧ hI h 58 (7 + j) ≤ 9 := fun j hj => hI_rg hh (nw_lk hj)
        rw [show (fun j => hI g 58 (7 + j)) = (fun j => hI h 58 (7 + j)) from funext (fun j => k8 _)] at y1
        -- the table is over the class's looks; the codes are over the reference's: both agree on the people
        have dpM : dpW (fun j => hI h 58 (7 + j)) kd a s n n L := dp_tr (fun b hb => ((nr.2.2.2.1 a (by omega)).2 b (by omega)).symm) (by omega) x4
        have eq := meet_eq (v := w.toInt) hGM (show n ≤ 6 by omega) ha6 dpM
        have y1 : nEv sc 100 194 [.ref 53, sI (a : Int), sI (s : Int), sI w.toInt] g (some (sI (if fwC (fun x => decide (pSeem (cdG (fun j => hI h 58 (7 + j)) a s n x) n kd a s = w.toInt)) (uq (fun j => hI h 58 (7 + j)) a s n).length (10 ^ (uq (fun j => hI h 58 (7 + j)) a s n).length) = 1000000 then (-9 : Int) else fwC (fun x => decide (pSeem (cdG (fun j => hI h 58 (7 + j)) a s n x) n kd a s = w.toInt)) (uq (fun j => hI h 58 (7 + j)) a s n).length (10 ^ (uq (fun j => hI h 58 (7 + j)) a s n).length))), g2) := y1
        rw [eq] at y1
        refine pk (by rw [ea, es]; exact fMtX (d := 95) hh en (by omega) (by omega) c3 x1 x2) x2 (by rw [ea, es]; exact y1) ?_
        have t1 : ∀ p m, p ≠ 18 → p ≠ 19 → p ≠ 65 → aSlot g2 p m = aSlot h p m := fun p m w1 w2 w3 => by rw [y3 p m w3, x3 p m w1 w2]
        exact wP_sl hp (tP_sl hp.1 y2 (fun e m w => t1 e m (by omega) (by omega) (by omega))) (fun p m w => t1 p m (by omega) (by omega) (by omega))
      · exact pk (fMtXb2 (d := 95) hh en rx ry rw_ ⟨c1, c2, c3⟩) hh (fMmb2 (d := 96) (n := n) hh (by omega) rx ry rw_ ⟨by omega, c2, c3⟩) hp
    · exact pk (fMtXb1 (d := 95) hh en rx ry rw_ ⟨c1, c2⟩) hh (fMmb1 (d := 96) (n := n) hh (by omega) rx ry rw_ ⟨by omega, c2⟩) hp
  · exact pk (fMtXb0 (d := 95) hh rx ry rw_ c1) hh (fMmb0 (d := 96) (n := n) hh (by omega) rx ry rw_ (by omega)) hp

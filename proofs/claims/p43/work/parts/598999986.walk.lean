/-! steps, the class: the search by breadth -/
def nxG (G : Nat → Nat) (s a : Nat) : Nat := 16 * bxo (s / 16) a + ((s % 16) ||| G (bxo (s / 16) a))
def glK (K s : Nat) : Prop := s % 16 = 2 ^ K - 1
def vlK (n K s : Nat) : Prop := s / 16 < 2 ^ n ∧ s % 16 < 2 ^ K
theorem bxo_w : ∀ n, n < 7 → ∀ U, U < 2 ^ n → ∀ a, a < n → bxo U a < 2 ^ n := by decide +kernel
theorem p2_4 {K : Nat} (hK : K ≤ 4) : 1 ≤ 2 ^ K ∧ 2 ^ K ≤ 16 := (show ∀ K, K < 5 → 1 ≤ 2 ^ K ∧ 2 ^ K ≤ 16 by decide) K (by omega)
theorem b_or16 : ∀ s, s < 16 → ∀ t, t < 16 → (Int32.ofInt (s : Nat) ||| Int32.ofInt (t : Nat)) = Int32.ofInt ((s ||| t : Nat) : Int) := by decide +kernel
theorem vlK_ok {n K : Nat} {G : Nat → Nat} (hn : n ≤ 6) (hK : K ≤ 4) (hG : ∀ t, G t < 2 ^ K) : ∀ s, vlK n K s → s < 1024 ∧ ∀ a, a < n → vlK n K (nxG G s a) := by
  intro s hs
  have p2 := p2_le hn
  have p4 := p2_4 hK
  obtain ⟨h1, h2⟩ := hs
  refine ⟨by omega, fun a ha => ?_⟩
  have b1 := bxo_w n (by omega) (s / 16) h1 a ha
  have o1 : (s % 16) ||| G (bxo (s / 16) a) < 2 ^ K := Nat.or_lt_two_pow h2 (hG _)
  unfold vlK nxG
  generalize (s % 16) ||| G (bxo (s / 16) a) = m at *
  generalize bxo (s / 16) a = u at *
  generalize 2 ^ K = P at *
  exact ⟨by omega, by omega⟩
def wkC (b g : mH) (Q R : Nat → Nat) (tl : Nat) : Prop := aHp g ∧ (∀ p m, p ≠ 15 → p ≠ 16 → aSlot g p m = aSlot b p m) ∧ (∀ i, i < tl → hI g 15 i = (Q i : Int)) ∧ ∀ s, s < 1024 → hI g 16 s = (R s : Int)
section WALK
variable {sc : List Int32} {d : Nat} {b : mH}
theorem fWkI {n r K q s0 hd S w : Nat} {G : Nat → Nat} {al : Int} (hr : r < 6) (hn6 : n ≤ 6) (hK : K ≤ 4) (hq : 2 ^ n = q) (hG : ∀ t, G t < 2 ^ K) (n_b : hI b 3 3 = (n : Int)) (g_b : ∀ t, t < q → hI b 14 t = (G t : Int)) : ∀ (c a tl : Nat) (g : mH) (Q R : Nat → Nat) (X9 X10 : Option Value), a + c = n → wkC b g Q R tl → bfJ (nxG G) (glK K) (vlK n K) n s0 hd a tl Q R → Q hd = S → R S = w + 1 → ∃ (g1 : mH) (tl1 : Nat) (Q1 R1 : Nat → Nat) (Y8 Y9 Y10 : Option Value), (∀ q, nRn sc (d + 6) (mMT mMe86) (mMC mMe86) (141, [some (.ref 13), some (.ref 3), some (.ref (21 + 2 * r)), some (sI al), some (sI ((tl1 : Int))), some (sI ((hd : Int))), some (sI ((S : Int))), some (sI ((w : Int))), Y8, Y9, Y10], [], g1) q → nRn sc (d + 6) (mMT mMe86) (mMC mMe86) (83, [some (.ref 13), some (.ref 3), some (.ref (21 + 2 * r)), some (sI al), some (sI ((tl : Int))), some (sI ((hd : Int))), some (sI ((S : Int))), some (sI ((w : Int))), some (sI ((a : Int))), X9, X10], [], g) q) ∧ wkC b g1 Q1 R1 tl1 ∧ bfJ (nxG G) (glK K) (vlK n K) n s0 hd n tl1 Q1 R1 := by
  have p2 := p2_le hn6
  have p4 := p2_4 hK
  rw [hq] at p2
  have hV := vlK_ok hn6 hK hG
  intro c
  induction c with
  | zero =>
    intro a tl g Q R X9 X10 ha hC hJ hS hw
    have han : a = n := by omega
    subst han
    obtain ⟨hg, f_g, q_g, r_g⟩ := id hC
    have n_g : hI g 3 3 = (a : Int) := by rw [hI_cg (f_g 3 3 (by omega) (by omega))]; exact n_b
    refine ⟨g, tl, Q, R, some (sI (a : Int)), X9, X10, fun q hq => ?_, hC, hJ⟩
    refine sP 2 (g1 := (85, [some (.ref 13), some (.ref 3), some (.ref (21 + 2 * r)), some (sI al), some (sI ((tl : Int))), some (sI ((hd : Int))), some (sI ((S : Int))), some (sI ((w : Int))), some (sI ((a : Int))), X9, X10], [.ref 3, sI ((a : Int))], g)) rfl ?_
    refine s_get (a := 3) (j := 3) hg rfl ⟨_, rfl⟩ rfl rfl rfl (v := sI ((a : Int))) (by have q := hI_ok hg xw_p; rw [n_g] at q; exact q) ?_
    refine s_icmp (q := .ge) (a := (a : Int)) (b := (a : Int)) rfl ⟨_, rfl⟩ rfl (by unfold sR aMi aMa; omega) (by unfold sR aMi aMa; omega) (fun hc1 => ?_) (fun hc1 => ?_)
    · have hc1 : (((a : Int)) : Int) ≤ ((a : Int)) := hc1
      exact hq
    · have hc1 : ¬ ((((a : Int)) : Int) ≤ ((a : Int))) := hc1
      omega
  | succ c ih =>
    intro a tl g Q R X9 X10 ha hC hJ hS hw
    obtain ⟨hg, f_g, q_g, r_g⟩ := id hC
    obtain ⟨j1, j2, j3, j4, j5⟩ := id hJ
    obtain ⟨k1, k2, k3, k4, k5, k6, k7, k8⟩ := id j1
    have n_g : hI g 3 3 = (n : Int) := by rw [hI_cg (f_g 3 3 (by omega) (by omega))]; exact n_b
    have g_g : ∀ t, t < q → hI g 14 t = (G t : Int) := fun t ht => by rw [hI_cg (f_g 14 t (by omega) (by omega))]; exact g_b t ht
    have tc := cnW_le R 1024
    have v1 := (k2 hd j2).1
    rw [hS] at v1
    have w1 := (k2 hd j2).2.2
    rw [hS, hw] at w1
    have v2 := hV S v1
    have v3 := v2.2 a (by omega)
    have v4 := (hV _ v3).1
    have u1 : S / 16 < q := by rw [← hq]; exact v1.1
    have u2 : S % 16 < 16 := by omega
    have u3 : bxo (S / 16) a < q := by rw [← hq]; exact bxo_w n (by omega) (S / 16) v1.1 a (by omega)
    have u4 := hG (bxo (S / 16) a)
    have rb : (R (nxG G S a) : Int) ≤ 2147483647 := by
      have q := hI_sR g 16 (nxG G S a)
      rw [r_g _ v4] at q
      unfold sR aMi aMa at q
      omega
    by_cases hz : R (nxG G S a) = 0
    · have tl1 : tl < 1024 := by
        have := cnW_lt hz 1024 v4
        omega
      have hv : ∀ v, v = 1 + stpW w a → bfJ (nxG G) (glK K) (vlK n K) n s0 hd (a + 1) (tl + 1) (fun i => if i = tl then nxG G S a else Q i) (fun s => if s = nxG G S a then v else R s) := fun v hv => bf_add (v := v) hV hJ (by omega) (by omega) (by rw [hS]; exact hz) (by rw [hS, hw]; exact hv) (fun i => by rw [hS]) (fun s => by rw [hS])
      have hSN : S ≠ nxG G S a := fun e => by rw [← e] at hz; omega
      have hwr : ∀ (v : Nat) (g1 g2 : mH), v = 1 + stpW w a → sR (v : Int) → aHp g2 → (∀ p m, aSlot g1 p m = if p = 16 ∧ m = nxG G S a then some (sI (v : Int)) else aSlot g p m) → (∀ p m, aSlot g2 p m = if p = 15 ∧ m = tl then some (sI ((nxG G S a : Nat) : Int)) else aSlot g1 p m) → wkC b g2 (fun i => if i = tl then nxG G S a else Q i) (fun s => if s = nxG G S a then v else R s) (tl + 1) := by
        intro v g1 g2 hv sv hg2 s1 s2
        refine ⟨hg2, fun p m w1 w2 => by rw [s2, if_neg (by omega), s1, if_neg (by omega)]; exact f_g p m w1 w2, fun i hi => ?_, fun s hs => ?_⟩
        · show hI g2 15 i = ((if i = tl then nxG G S a else Q i : Nat) : Int)
          by_cases e : i = tl
          · rw [if_pos e]
            exact hI_si (by rw [s2, if_pos ⟨rfl, e⟩]) (by unfold sR aMi aMa; omega)
          · rw [if_neg e, hI_cg (show aSlot g2 15 i = aSlot g 15 i by rw [s2, if_neg (by omega), s1, if_neg (by omega)])]
            exact q_g i (by omega)
        · show hI g2 16 s = ((if s = nxG G S a then v else R s : Nat) : Int)
          by_cases e : s = nxG G S a
          · rw [if_pos e]
            exact hI_si (by rw [s2, if_neg (by omega), s1, if_pos ⟨rfl, e⟩]) sv
          · rw [if_neg e, hI_cg (show aSlot g2 16 s = aSlot g 16 s by rw [s2, if_neg (by omega), s1, if_neg (by omega)])]
            exact r_g s hs
      by_cases w0 : w = 0
      · have es : 1 + stpW w a = 1 + (8 + a) := by unfold stpW; rw [if_pos w0]
        obtain ⟨g1, eg1⟩ : ∃ gz, gz = hset g 16 ((nxG G S a)) (sI (1 + (8 + (a : Int)))) := ⟨_, rfl⟩
        have sg1 : ∀ xa xm, aSlot g1 xa xm = if xa = 16 ∧ xm = (nxG G S a) then some (sI (1 + (8 + (a : Int)))) else aSlot g xa xm := fun xa xm => by rw [eg1]; exact hset_slot hg (show sTg 16 = some (50, 1024) from rfl) (by omega) xa xm
        have hg1 : aHp g1 := by rw [eg1]; exact hset_ii hg (w16i v4) (by omega) (by omega) (by unfold sR aMi aMa; omega)
        obtain ⟨g2, eg2⟩ : ∃ gz, gz = hset g1 15 tl (sI ((nxG G S a : Nat) : Int)) := ⟨_, rfl⟩
        have sg2 : ∀ xa xm, aSlot g2 xa xm = if xa = 15 ∧ xm = tl then some (sI ((nxG G S a : Nat) : Int)) else aSlot g1 xa xm := fun xa xm => by rw [eg2]; exact hset_slot hg1 (show sTg 15 = some (50, 1024) from rfl) (by omega) xa xm
        have hg2 : aHp g2 := by rw [eg2]; exact hset_ii hg1 (w15i tl1) (by omega) (by omega) (by unfold sR aMi aMa; omega)
        have c2 := hwr (1 + (8 + a)) g1 g2 es.symm (by unfold sR aMi aMa; omega) hg2 (fun p m => by rw [sg1, show ((1 + (8 + a) : Nat) : Int) = 1 + (8 + (a : Int)) by omega]) sg2
        obtain ⟨g3, tl3, Q3, R3, Y8, Y9, Y10, i1, i2, i3⟩ := ih (a + 1) (tl + 1) g2 _ _ (some (sI ((bxo (S / 16) a : Nat) : Int))) (some (sI ((nxG G S a : Nat) : Int))) (by omega) c2 (hv _ es.symm) (by show (if hd = tl then nxG G S a else Q hd) = S; rw [if_neg (by omega)]; exact hS) (by show (if S = nxG G S a then _ else R S) = w + 1; rw [if_neg hSN]; exact hw)
        refine ⟨g3, tl3, Q3, R3, Y8, Y9, Y10, fun q hq => ?_, i2, i3⟩
        refine sP 2 (g1 := (85, [some (.ref 13), some (.ref 3), some (.ref (21 + 2 * r)), some (sI al), some (sI ((tl : Int))), some (sI ((hd : Int))), some (sI ((S : Int))), some (sI ((w : Int))), some (sI ((a : Int))), X9, X10], [.ref 3, sI ((a : Int))], g)) rfl ?_
        refine s_get (a := 3) (j := 3) hg rfl ⟨_, rfl⟩ rfl rfl rfl (v := sI ((n : Int))) (by have q := hI_ok hg xw_p; rw [n_g] at q; exact q) ?_
        refine s_icmp (q := .ge) (a := (a : Int)) (b := (n : Int)) rfl ⟨_, rfl⟩ rfl (by unfold sR aMi aMa; omega) (by unfold sR aMi aMa; omega) (fun hc1 => ?_) (fun hc1 => ?_)
        · have hc1 : (((n : Int)) : Int) ≤ ((a : Int)) := hc1
          omega
        · have hc1 : ¬ ((((n : Int)) : Int) ≤ ((a : Int))) := hc1
          refine sP 2 (g1 := (89, [some (.ref 13), some (.ref 3), some (.ref (21 + 2 * r)), some (sI al), some (sI ((tl : Int))), some (sI ((hd : Int))), some (sI ((S : Int))), some (sI ((w : Int))), some (sI ((a : Int))), X9, X10], [sI 16, sI ((S : Int))], g)) rfl ?_
          refine s_divN (a := S) (b := 16) rfl rfl (by omega) (by omega) (by omega) ?_
          refine sP 2 (g1 := (92, [some (.ref 13), some (.ref 3), some (.ref (21 + 2 * r)), some (sI al), some (sI ((tl : Int))), some (sI ((hd : Int))), some (sI ((S : Int))), some (sI ((w : Int))), some (sI ((a : Int))), X9, X10], [sI ((a : Int)), sI 1, sI (((S / 16 : Nat) : Int))], g)) rfl ?_
          refine s_shl (a := a) rfl rfl (by omega) ?_
          refine s_xo (s := S / 16) (a := a) rfl rfl (by omega) (by omega) ?_
          refine sP 3 (g1 := (97, [some (.ref 13), some (.ref 3), some (.ref (21 + 2 * r)), some (sI al), some (sI ((tl : Int))), some (sI ((hd : Int))), some (sI ((S : Int))), some (sI ((w : Int))), some (sI ((a : Int))), some (sI (((bxo (S / 16) a : Nat) : Int))), X10], [sI 16, sI (((bxo (S / 16) a : Nat) : Int))], g)) rfl ?_
          refine s_mul (a := ((bxo (S / 16) a : Nat) : Int)) (b := 16) rfl rfl ?_
          refine sP 2 (g1 := (100, [some (.ref 13), some (.ref 3), some (.ref (21 + 2 * r)), some (sI al), some (sI ((tl : Int))), some (sI ((hd : Int))), some (sI ((S : Int))), some (sI ((w : Int))), some (sI ((a : Int))), some (sI (((bxo (S / 16) a : Nat) : Int))), X10], [sI 16, sI ((S : Int)), sI ((((bxo (S / 16) a : Nat) : Int)) * 16)], g)) rfl ?_
          refine s_remN (a := S) (b := 16) rfl rfl (by omega) (by omega) (by omega) ?_
          refine sP 1 (g1 := (102, [some (.ref 13), some (.ref 3), some (.ref (21 + 2 * r)), some (sI al), some (sI ((tl : Int))), some (sI ((hd : Int))), some (sI ((S : Int))), some (sI ((w : Int))), some (sI ((a : Int))), some (sI (((bxo (S / 16) a : Nat) : Int))), X10], [.ref 13, sI (((S % 16 : Nat) : Int)), sI ((((bxo (S / 16) a : Nat) : Int)) * 16)], g)) rfl ?_
          refine s_get (a := 13) (j := 0) hg rfl ⟨_, rfl⟩ rfl rfl rfl (v := .ref 14) (hR_ok hg (by decide +kernel)) ?_
          refine sP 1 (g1 := (104, [some (.ref 13), some (.ref 3), some (.ref (21 + 2 * r)), some (sI al), some (sI ((tl : Int))), some (sI ((hd : Int))), some (sI ((S : Int))), some (sI ((w : Int))), some (sI ((a : Int))), some (sI (((bxo (S / 16) a : Nat) : Int))), X10], [sI (((bxo (S / 16) a : Nat) : Int)), .ref 14, sI (((S % 16 : Nat) : Int)), sI ((((bxo (S / 16) a : Nat) : Int)) * 16)], g)) rfl ?_
          refine s_iald (a := 14) (n := 64) (j := ((bxo (S / 16) a : Nat) : Int)) hg rfl rfl rfl (by omega) (by omega) (by decide) (v := sI ((G (bxo (S / 16) a) : Int))) (by rw [Int.toNat_natCast]; have q := hI_ok hg (w14 (show bxo (S / 16) a < 64 by omega)); rw [g_g _ (by omega)] at q; exact q) ?_
          refine s_b1 (w := Int32.ofInt (((S % 16) ||| G (bxo (S / 16) a) : Nat) : Int)) rfl rfl (b_or16 (S % 16) (by omega) (G (bxo (S / 16) a)) (by omega)) ?_
          refine s_add (a := (((bxo (S / 16) a : Nat) : Int)) * 16) (b := (((S % 16) ||| G (bxo (S / 16) a) : Nat) : Int)) rfl rfl ?_
          rw [show (((((bxo (S / 16) a : Nat) : Int)) * 16) + ((((S % 16) ||| G (bxo (S / 16) a) : Nat) : Int)) : Int) = ((nxG G S a : Nat) : Int) by unfold nxG; omega]
          refine sP 2 (g1 := (109, [some (.ref 13), some (.ref 3), some (.ref (21 + 2 * r)), some (sI al), some (sI ((tl : Int))), some (sI ((hd : Int))), some (sI ((S : Int))), some (sI ((w : Int))), some (sI ((a : Int))), some (sI (((bxo (S / 16) a : Nat) : Int))), some (sI (((nxG G S a : Nat) : Int)))], [.ref 13], g)) rfl ?_
          refine s_get (a := 13) (j := 2) hg rfl ⟨_, rfl⟩ rfl rfl rfl (v := .ref 16) (hR_ok hg (by decide +kernel)) ?_
          refine sP 1 (g1 := (111, [some (.ref 13), some (.ref 3), some (.ref (21 + 2 * r)), some (sI al), some (sI ((tl : Int))), some (sI ((hd : Int))), some (sI ((S : Int))), some (sI ((w : Int))), some (sI ((a : Int))), some (sI (((bxo (S / 16) a : Nat) : Int))), some (sI (((nxG G S a : Nat) : Int)))], [sI (((nxG G S a : Nat) : Int)), .ref 16], g)) rfl ?_
          refine s_iald (a := 16) (n := 1024) (j := ((nxG G S a : Nat) : Int)) hg rfl rfl rfl (by omega) (by omega) (by decide) (v := sI ((R (nxG G S a) : Int))) (by rw [Int.toNat_natCast]; have q := hI_ok hg (w16 (show nxG G S a < 1024 by omega)); rw [r_g _ (by omega)] at q; exact q) ?_
          refine s_ifc (q := .ne) (a := (R (nxG G S a) : Int)) rfl ⟨_, rfl⟩ rfl (by unfold sR aMi aMa; omega) (fun hc2 => ?_) (fun hc2 => ?_)
          · have hc2 : (((R (nxG G S a) : Int)) : Int) ≠ 0 := hc2
            omega
          · have hc2 : ¬ ((((R (nxG G S a) : Int)) : Int) ≠ 0) := hc2
            refine sP 2 (g1 := (115, [some (.ref 13), some (.ref 3), some (.ref (21 + 2 * r)), some (sI al), some (sI ((tl : Int))), some (sI ((hd : Int))), some (sI ((S : Int))), some (sI ((w : Int))), some (sI ((a : Int))), some (sI (((bxo (S / 16) a : Nat) : Int))), some (sI (((nxG G S a : Nat) : Int)))], [.ref 13, sI ((tl : Int))], g)) rfl ?_
            refine s_get (a := 13) (j := 1) hg rfl ⟨_, rfl⟩ rfl rfl rfl (v := .ref 15) (hR_ok hg (by decide +kernel)) ?_
            refine s_len (a := 15) (n := 1024) hg rfl rfl rfl (by decide) ?_
            refine s_icmp (q := .ge) (a := (tl : Int)) (b := (1024 : Nat)) rfl ⟨_, rfl⟩ rfl (by unfold sR aMi aMa; omega) (by unfold sR aMi aMa; omega) (fun hc3 => ?_) (fun hc3 => ?_)
            · have hc3 : (((1024 : Nat)) : Int) ≤ ((tl : Int)) := hc3
              omega
            · have hc3 : ¬ ((((1024 : Nat)) : Int) ≤ ((tl : Int))) := hc3
              refine sP 1 (g1 := (119, [some (.ref 13), some (.ref 3), some (.ref (21 + 2 * r)), some (sI al), some (sI ((tl : Int))), some (sI ((hd : Int))), some (sI ((S : Int))), some (sI ((w : Int))), some (sI ((a : Int))), some (sI (((bxo (S / 16) a : Nat) : Int))), some (sI (((nxG G S a : Nat) : Int)))], [.ref 13], g)) rfl ?_
              refine s_get (a := 13) (j := 2) hg rfl ⟨_, rfl⟩ rfl rfl rfl (v := .ref 16) (hR_ok hg (by decide +kernel)) ?_
              refine sP 3 (g1 := (123, [some (.ref 13), some (.ref 3), some (.ref (21 + 2 * r)), some (sI al), some (sI ((tl : Int))), some (sI ((hd : Int))), some (sI ((S : Int))), some (sI ((w : Int))), some (sI ((a : Int))), some (sI (((bxo (S / 16) a : Nat) : Int))), some (sI (((nxG G S a : Nat) : Int)))], [sI ((w : Int)), sI 1, sI (((nxG G S a : Nat) : Int)), .ref 16], g)) rfl ?_
              refine s_ifc (q := .ne) (a := (w : Int)) rfl ⟨_, rfl⟩ rfl (by unfold sR aMi aMa; omega) (fun hc4 => ?_) (fun hc4 => ?_)
              · have hc4 : (((w : Int)) : Int) ≠ 0 := hc4
                omega
              · have hc4 : ¬ ((((w : Int)) : Int) ≠ 0) := hc4
                refine sP 2 (g1 := (126, [some (.ref 13), some (.ref 3), some (.ref (21 + 2 * r)), some (sI al), some (sI ((tl : Int))), some (sI ((hd : Int))), some (sI ((S : Int))), some (sI ((w : Int))), some (sI ((a : Int))), some (sI (((bxo (S / 16) a : Nat) : Int))), some (sI (((nxG G S a : Nat) : Int)))], [sI ((a : Int)), sI 8, sI 1, sI (((nxG G S a : Nat) : Int)), .ref 16], g)) rfl ?_
                refine s_add (a := 8) (b := (a : Int)) rfl rfl ?_
                refine sP 1 (g1 := (131, [some (.ref 13), some (.ref 3), some (.ref (21 + 2 * r)), some (sI al), some (sI ((tl : Int))), some (sI ((hd : Int))), some (sI ((S : Int))), some (sI ((w : Int))), some (sI ((a : Int))), some (sI (((bxo (S / 16) a : Nat) : Int))), some (sI (((nxG G S a : Nat) : Int)))], [sI (8 + ((a : Int))), sI 1, sI (((nxG G S a : Nat) : Int)), .ref 16], g)) rfl ?_
                refine s_add (a := 1) (b := 8 + ((a : Int))) rfl rfl ?_
                refine s_iast (a := 16) (n := 1024) (j := ((nxG G S a : Nat) : Int)) hg rfl rfl (show sTg 16 = some (50, 1024) from rfl) (by omega) (by omega) (by decide) ?_
                rw [show (((nxG G S a : Nat) : Int) : Int).toNat = (nxG G S a) by omega]
                rw [← eg1]
                refine sP 1 (g1 := (134, [some (.ref 13), some (.ref 3), some (.ref (21 + 2 * r)), some (sI al), some (sI ((tl : Int))), some (sI ((hd : Int))), some (sI ((S : Int))), some (sI ((w : Int))), some (sI ((a : Int))), some (sI (((bxo (S / 16) a : Nat) : Int))), some (sI (((nxG G S a : Nat) : Int)))], [.ref 13], g1)) rfl ?_
                refine s_get (a := 13) (j := 1) hg1 rfl ⟨_, rfl⟩ rfl rfl rfl (v := .ref 15) (hR_ok hg1 (by decide +kernel)) ?_
                refine sP 2 (g1 := (137, [some (.ref 13), some (.ref 3), some (.ref (21 + 2 * r)), some (sI al), some (sI ((tl : Int))), some (sI ((hd : Int))), some (sI ((S : Int))), some (sI ((w : Int))), some (sI ((a : Int))), some (sI (((bxo (S / 16) a : Nat) : Int))), some (sI (((nxG G S a : Nat) : Int)))], [sI (((nxG G S a : Nat) : Int)), sI ((tl : Int)), .ref 15], g1)) rfl ?_
                refine s_iast (a := 15) (n := 1024) (j := (tl : Int)) hg1 rfl rfl (show sTg 15 = some (50, 1024) from rfl) (by omega) (by omega) (by decide) ?_
                rw [show ((tl : Int) : Int).toNat = tl by omega]
                rw [← eg2]
                refine s_inc (a := (tl : Int)) (n := 1) (k := 4) rfl rfl rfl ?_
                refine s_inc (a := (a : Int)) (n := 1) (k := 8) rfl rfl rfl ?_
                refine sP 1 (g1 := (83, [some (.ref 13), some (.ref 3), some (.ref (21 + 2 * r)), some (sI al), some (sI (((tl : Int)) + 1)), some (sI ((hd : Int))), some (sI ((S : Int))), some (sI ((w : Int))), some (sI (((a : Int)) + 1)), some (sI (((bxo (S / 16) a : Nat) : Int))), some (sI (((nxG G S a : Nat) : Int)))], [], g2)) rfl ?_
                rw [show ((a : Int) + 1) = ((a + 1 : Nat) : Int) by omega, show ((tl : Int) + 1) = ((tl + 1 : Nat) : Int) by omega]
                exact i1 q hq
      · have es : 1 + stpW w a = 1 + (w + 8) := by unfold stpW; rw [if_neg w0]
        obtain ⟨g1, eg1⟩ : ∃ gz, gz = hset g 16 ((nxG G S a)) (sI (1 + ((w : Int) + 8))) := ⟨_, rfl⟩
        have sg1 : ∀ xa xm, aSlot g1 xa xm = if xa = 16 ∧ xm = (nxG G S a) then some (sI (1 + ((w : Int) + 8))) else aSlot g xa xm := fun xa xm => by rw [eg1]; exact hset_slot hg (show sTg 16 = some (50, 1024) from rfl) (by omega) xa xm
        have hg1 : aHp g1 := by rw [eg1]; exact hset_ii hg (w16i v4) (by omega) (by omega) (by unfold sR aMi aMa; omega)
        obtain ⟨g2, eg2⟩ : ∃ gz, gz = hset g1 15 tl (sI ((nxG G S a : Nat) : Int)) := ⟨_, rfl⟩
        have sg2 : ∀ xa xm, aSlot g2 xa xm = if xa = 15 ∧ xm = tl then some (sI ((nxG G S a : Nat) : Int)) else aSlot g1 xa xm := fun xa xm => by rw [eg2]; exact hset_slot hg1 (show sTg 15 = some (50, 1024) from rfl) (by omega) xa xm
        have hg2 : aHp g2 := by rw [eg2]; exact hset_ii hg1 (w15i tl1) (by omega) (by omega) (by unfold sR aMi aMa; omega)
        have c2 := hwr (1 + (w + 8)) g1 g2 es.symm (by unfold sR aMi aMa; omega) hg2 (fun p m => by rw [sg1, show ((1 + (w + 8) : Nat) : Int) = 1 + ((w : Int) + 8) by omega]) sg2
        obtain ⟨g3, tl3, Q3, R3, Y8, Y9, Y10, i1, i2, i3⟩ := ih (a + 1) (tl + 1) g2 _ _ (some (sI ((bxo (S / 16) a : Nat) : Int))) (some (sI ((nxG G S a : Nat) : Int))) (by omega) c2 (hv _ es.symm) (by show (if hd = tl then nxG G S a else Q hd) = S; rw [if_neg (by omega)]; exact hS) (by show (if S = nxG G S a then _ else R S) = w + 1; rw [if_neg hSN]; exact hw)
        refine ⟨g3, tl3, Q3, R3, Y8, Y9, Y10, fun q hq => ?_, i2, i3⟩
        refine sP 2 (g1 := (85, [some (.ref 13), some (.ref 3), some (.ref (21 + 2 * r)), some (sI al), some (sI ((tl : Int))), some (sI ((hd : Int))), some (sI ((S : Int))), some (sI ((w : Int))), some (sI ((a : Int))), X9, X10], [.ref 3, sI ((a : Int))], g)) rfl ?_
        refine s_get (a := 3) (j := 3) hg rfl ⟨_, rfl⟩ rfl rfl rfl (v := sI ((n : Int))) (by have q := hI_ok hg xw_p; rw [n_g] at q; exact q) ?_
        refine s_icmp (q := .ge) (a := (a : Int)) (b := (n : Int)) rfl ⟨_, rfl⟩ rfl (by unfold sR aMi aMa; omega) (by unfold sR aMi aMa; omega) (fun hc1 => ?_) (fun hc1 => ?_)
        · have hc1 : (((n : Int)) : Int) ≤ ((a : Int)) := hc1
          omega
        · have hc1 : ¬ ((((n : Int)) : Int) ≤ ((a : Int))) := hc1
          refine sP 2 (g1 := (89, [some (.ref 13), some (.ref 3), some (.ref (21 + 2 * r)), some (sI al), some (sI ((tl : Int))), some (sI ((hd : Int))), some (sI ((S : Int))), some (sI ((w : Int))), some (sI ((a : Int))), X9, X10], [sI 16, sI ((S : Int))], g)) rfl ?_
          refine s_divN (a := S) (b := 16) rfl rfl (by omega) (by omega) (by omega) ?_
          refine sP 2 (g1 := (92, [some (.ref 13), some (.ref 3), some (.ref (21 + 2 * r)), some (sI al), some (sI ((tl : Int))), some (sI ((hd : Int))), some (sI ((S : Int))), some (sI ((w : Int))), some (sI ((a : Int))), X9, X10], [sI ((a : Int)), sI 1, sI (((S / 16 : Nat) : Int))], g)) rfl ?_
          refine s_shl (a := a) rfl rfl (by omega) ?_
          refine s_xo (s := S / 16) (a := a) rfl rfl (by omega) (by omega) ?_
          refine sP 3 (g1 := (97, [some (.ref 13), some (.ref 3), some (.ref (21 + 2 * r)), some (sI al), some (sI ((tl : Int))), some (sI ((hd : Int))), some (sI ((S : Int))), some (sI ((w : Int))), some (sI ((a : Int))), some (sI (((bxo (S / 16) a : Nat) : Int))), X10], [sI 16, sI (((bxo (S / 16) a : Nat) : Int))], g)) rfl ?_
          refine s_mul (a := ((bxo (S / 16) a : Nat) : Int)) (b := 16) rfl rfl ?_
          refine sP 2 (g1 := (100, [some (.ref 13), some (.ref 3), some (.ref (21 + 2 * r)), some (sI al), some (sI ((tl : Int))), some (sI ((hd : Int))), some (sI ((S : Int))), some (sI ((w : Int))), some (sI ((a : Int))), some (sI (((bxo (S / 16) a : Nat) : Int))), X10], [sI 16, sI ((S : Int)), sI ((((bxo (S / 16) a : Nat) : Int)) * 16)], g)) rfl ?_
          refine s_remN (a := S) (b := 16) rfl rfl (by omega) (by omega) (by omega) ?_
          refine sP 1 (g1 := (102, [some (.ref 13), some (.ref 3), some (.ref (21 + 2 * r)), some (sI al), some (sI ((tl : Int))), some (sI ((hd : Int))), some (sI ((S : Int))), some (sI ((w : Int))), some (sI ((a : Int))), some (sI (((bxo (S / 16) a : Nat) : Int))), X10], [.ref 13, sI (((S % 16 : Nat) : Int)), sI ((((bxo (S / 16) a : Nat) : Int)) * 16)], g)) rfl ?_
          refine s_get (a := 13) (j := 0) hg rfl ⟨_, rfl⟩ rfl rfl rfl (v := .ref 14) (hR_ok hg (by decide +kernel)) ?_
          refine sP 1 (g1 := (104, [some (.ref 13), some (.ref 3), some (.ref (21 + 2 * r)), some (sI al), some (sI ((tl : Int))), some (sI ((hd : Int))), some (sI ((S : Int))), some (sI ((w : Int))), some (sI ((a : Int))), some (sI (((bxo (S / 16) a : Nat) : Int))), X10], [sI (((bxo (S / 16) a : Nat) : Int)), .ref 14, sI (((S % 16 : Nat) : Int)), sI ((((bxo (S / 16) a : Nat) : Int)) * 16)], g)) rfl ?_
          refine s_iald (a := 14) (n := 64) (j := ((bxo (S / 16) a : Nat) : Int)) hg rfl rfl rfl (by omega) (by omega) (by decide) (v := sI ((G (bxo (S / 16) a) : Int))) (by rw [Int.toNat_natCast]; have q := hI_ok hg (w14 (show bxo (S / 16) a < 64 by omega)); rw [g_g _ (by omega)] at q; exact q) ?_
          refine s_b1 (w := Int32.ofInt (((S % 16) ||| G (bxo (S / 16) a) : Nat) : Int)) rfl rfl (b_or16 (S % 16) (by omega) (G (bxo (S / 16) a)) (by omega)) ?_
          refine s_add (a := (((bxo (S / 16) a : Nat) : Int)) * 16) (b := (((S % 16) ||| G (bxo (S / 16) a) : Nat) : Int)) rfl rfl ?_
          rw [show (((((bxo (S / 16) a : Nat) : Int)) * 16) + ((((S % 16) ||| G (bxo (S / 16) a) : Nat) : Int)) : Int) = ((nxG G S a : Nat) : Int) by unfold nxG; omega]
          refine sP 2 (g1 := (109, [some (.ref 13), some (.ref 3), some (.ref (21 + 2 * r)), some (sI al), some (sI ((tl : Int))), some (sI ((hd : Int))), some (sI ((S : Int))), some (sI ((w : Int))), some (sI ((a : Int))), some (sI (((bxo (S / 16) a : Nat) : Int))), some (sI (((nxG G S a : Nat) : Int)))], [.ref 13], g)) rfl ?_
          refine s_get (a := 13) (j := 2) hg rfl ⟨_, rfl⟩ rfl rfl rfl (v := .ref 16) (hR_ok hg (by decide +kernel)) ?_
          refine sP 1 (g1 := (111, [some (.ref 13), some (.ref 3), some (.ref (21 + 2 * r)), some (sI al), some (sI ((tl : Int))), some (sI ((hd : Int))), some (sI ((S : Int))), some (sI ((w : Int))), some (sI ((a : Int))), some (sI (((bxo (S / 16) a : Nat) : Int))), some (sI (((nxG G S a : Nat) : Int)))], [sI (((nxG G S a : Nat) : Int)), .ref 16], g)) rfl ?_
          refine s_iald (a := 16) (n := 1024) (j := ((nxG G S a : Nat) : Int)) hg rfl rfl rfl (by omega) (by omega) (by decide) (v := sI ((R (nxG G S a) : Int))) (by rw [Int.toNat_natCast]; have q := hI_ok hg (w16 (show nxG G S a < 1024 by omega)); rw [r_g _ (by omega)] at q; exact q) ?_
          refine s_ifc (q := .ne) (a := (R (nxG G S a) : Int)) rfl ⟨_, rfl⟩ rfl (by unfold sR aMi aMa; omega) (fun hc2 => ?_) (fun hc2 => ?_)
          · have hc2 : (((R (nxG G S a) : Int)) : Int) ≠ 0 := hc2
            omega
          · have hc2 : ¬ ((((R (nxG G S a) : Int)) : Int) ≠ 0) := hc2
            refine sP 2 (g1 := (115, [some (.ref 13), some (.ref 3), some (.ref (21 + 2 * r)), some (sI al), some (sI ((tl : Int))), some (sI ((hd : Int))), some (sI ((S : Int))), some (sI ((w : Int))), some (sI ((a : Int))), some (sI (((bxo (S / 16) a : Nat) : Int))), some (sI (((nxG G S a : Nat) : Int)))], [.ref 13, sI ((tl : Int))], g)) rfl ?_
            refine s_get (a := 13) (j := 1) hg rfl ⟨_, rfl⟩ rfl rfl rfl (v := .ref 15) (hR_ok hg (by decide +kernel)) ?_
            refine s_len (a := 15) (n := 1024) hg rfl rfl rfl (by decide) ?_
            refine s_icmp (q := .ge) (a := (tl : Int)) (b := (1024 : Nat)) rfl ⟨_, rfl⟩ rfl (by unfold sR aMi aMa; omega) (by unfold sR aMi aMa; omega) (fun hc3 => ?_) (fun hc3 => ?_)
            · have hc3 : (((1024 : Nat)) : Int) ≤ ((tl : Int)) := hc3
              omega
            · have hc3 : ¬ ((((1024 : Nat)) : Int) ≤ ((tl : Int))) := hc3
              refine sP 1 (g1 := (119, [some (.ref 13), some (.ref 3), some (.ref (21 + 2 * r)), some (sI al), some (sI ((tl : Int))), some (sI ((hd : Int))), some (sI ((S : Int))), some (sI ((w : Int))), some (sI ((a : Int))), some (sI (((bxo (S / 16) a : Nat) : Int))), some (sI (((nxG G S a : Nat) : Int)))], [.ref 13], g)) rfl ?_
              refine s_get (a := 13) (j := 2) hg rfl ⟨_, rfl⟩ rfl rfl rfl (v := .ref 16) (hR_ok hg (by decide +kernel)) ?_
              refine sP 3 (g1 := (123, [some (.ref 13), some (.ref 3), some (.ref (21 + 2 * r)), some (sI al), some (sI ((tl : Int))), some (sI ((hd : Int))), some (sI ((S : Int))), some (sI ((w : Int))), some (sI ((a : Int))), some (sI (((bxo (S / 16) a : Nat) : Int))), some (sI (((nxG G S a : Nat) : Int)))], [sI ((w : Int)), sI 1, sI (((nxG G S a : Nat) : Int)), .ref 16], g)) rfl ?_
              refine s_ifc (q := .ne) (a := (w : Int)) rfl ⟨_, rfl⟩ rfl (by unfold sR aMi aMa; omega) (fun hc4 => ?_) (fun hc4 => ?_)
              · have hc4 : (((w : Int)) : Int) ≠ 0 := hc4
                refine sP 2 (g1 := (130, [some (.ref 13), some (.ref 3), some (.ref (21 + 2 * r)), some (sI al), some (sI ((tl : Int))), some (sI ((hd : Int))), some (sI ((S : Int))), some (sI ((w : Int))), some (sI ((a : Int))), some (sI (((bxo (S / 16) a : Nat) : Int))), some (sI (((nxG G S a : Nat) : Int)))], [sI 8, sI ((w : Int)), sI 1, sI (((nxG G S a : Nat) : Int)), .ref 16], g)) rfl ?_
                refine s_add (a := (w : Int)) (b := 8) rfl rfl ?_
                refine s_add (a := 1) (b := ((w : Int)) + 8) rfl rfl ?_
                refine s_iast (a := 16) (n := 1024) (j := ((nxG G S a : Nat) : Int)) hg rfl rfl (show sTg 16 = some (50, 1024) from rfl) (by omega) (by omega) (by decide) ?_
                rw [show (((nxG G S a : Nat) : Int) : Int).toNat = (nxG G S a) by omega]
                rw [← eg1]
                refine sP 1 (g1 := (134, [some (.ref 13), some (.ref 3), some (.ref (21 + 2 * r)), some (sI al), some (sI ((tl : Int))), some (sI ((hd : Int))), some (sI ((S : Int))), some (sI ((w : Int))), some (sI ((a : Int))), some (sI (((bxo (S / 16) a : Nat) : Int))), some (sI (((nxG G S a : Nat) : Int)))], [.ref 13], g1)) rfl ?_
                refine s_get (a := 13) (j := 1) hg1 rfl ⟨_, rfl⟩ rfl rfl rfl (v := .ref 15) (hR_ok hg1 (by decide +kernel)) ?_
                refine sP 2 (g1 := (137, [some (.ref 13), some (.ref 3), some (.ref (21 + 2 * r)), some (sI al), some (sI ((tl : Int))), some (sI ((hd : Int))), some (sI ((S : Int))), some (sI ((w : Int))), some (sI ((a : Int))), some (sI (((bxo (S / 16) a : Nat) : Int))), some (sI (((nxG G S a : Nat) : Int)))], [sI (((nxG G S a : Nat) : Int)), sI ((tl : Int)), .ref 15], g1)) rfl ?_
                refine s_iast (a := 15) (n := 1024) (j := (tl : Int)) hg1 rfl rfl (show sTg 15 = some (50, 1024) from rfl) (by omega) (by omega) (by decide) ?_
                rw [show ((tl : Int) : Int).toNat = tl by omega]
                rw [← eg2]
                refine s_inc (a := (tl : Int)) (n := 1) (k := 4) rfl rfl rfl ?_
                refine s_inc (a := (a : Int)) (n := 1) (k := 8) rfl rfl rfl ?_
                refine sP 1 (g1 := (83, [some (.ref 13), some (.ref 3), some (.ref (21 + 2 * r)), some (sI al), some (sI (((tl : Int)) + 1)), some (sI ((hd : Int))), some (sI ((S : Int))), some (sI ((w : Int))), some (sI (((a : Int)) + 1)), some (sI (((bxo (S / 16) a : Nat) : Int))), some (sI (((nxG G S a : Nat) : Int)))], [], g2)) rfl ?_
                rw [show ((a : Int) + 1) = ((a + 1 : Nat) : Int) by omega, show ((tl : Int) + 1) = ((tl + 1 : Nat) : Int) by omega]
                exact i1 q hq
              · have hc4 : ¬ ((((w : Int)) : Int) ≠ 0) := hc4
                omega
    · obtain ⟨g3, tl3, Q3, R3, Y8, Y9, Y10, i1, i2, i3⟩ := ih (a + 1) tl g Q R (some (sI ((bxo (S / 16) a : Nat) : Int))) (some (sI ((nxG G S a : Nat) : Int))) (by omega) hC (bf_skip hV hJ (by omega) (by rw [hS]; exact hz)) hS hw
      refine ⟨g3, tl3, Q3, R3, Y8, Y9, Y10, fun q hq => ?_, i2, i3⟩
      refine sP 2 (g1 := (85, [some (.ref 13), some (.ref 3), some (.ref (21 + 2 * r)), some (sI al), some (sI ((tl : Int))), some (sI ((hd : Int))), some (sI ((S : Int))), some (sI ((w : Int))), some (sI ((a : Int))), X9, X10], [.ref 3, sI ((a : Int))], g)) rfl ?_
      refine s_get (a := 3) (j := 3) hg rfl ⟨_, rfl⟩ rfl rfl rfl (v := sI ((n : Int))) (by have q := hI_ok hg xw_p; rw [n_g] at q; exact q) ?_
      refine s_icmp (q := .ge) (a := (a : Int)) (b := (n : Int)) rfl ⟨_, rfl⟩ rfl (by unfold sR aMi aMa; omega) (by unfold sR aMi aMa; omega) (fun hc1 => ?_) (fun hc1 => ?_)
      · have hc1 : (((n : Int)) : Int) ≤ ((a : Int)) := hc1
        omega
      · have hc1 : ¬ ((((n : Int)) : Int) ≤ ((a : Int))) := hc1
        refine sP 2 (g1 := (89, [some (.ref 13), some (.ref 3), some (.ref (21 + 2 * r)), some (sI al), some (sI ((tl : Int))), some (sI ((hd : Int))), some (sI ((S : Int))), some (sI ((w : Int))), some (sI ((a : Int))), X9, X10], [sI 16, sI ((S : Int))], g)) rfl ?_
        refine s_divN (a := S) (b := 16) rfl rfl (by omega) (by omega) (by omega) ?_
        refine sP 2 (g1 := (92, [some (.ref 13), some (.ref 3), some (.ref (21 + 2 * r)), some (sI al), some (sI ((tl : Int))), some (sI ((hd : Int))), some (sI ((S : Int))), some (sI ((w : Int))), some (sI ((a : Int))), X9, X10], [sI ((a : Int)), sI 1, sI (((S / 16 : Nat) : Int))], g)) rfl ?_
        refine s_shl (a := a) rfl rfl (by omega) ?_
        refine s_xo (s := S / 16) (a := a) rfl rfl (by omega) (by omega) ?_
        refine sP 3 (g1 := (97, [some (.ref 13), some (.ref 3), some (.ref (21 + 2 * r)), some (sI al), some (sI ((tl : Int))), some (sI ((hd : Int))), some (sI ((S : Int))), some (sI ((w : Int))), some (sI ((a : Int))), some (sI (((bxo (S / 16) a : Nat) : Int))), X10], [sI 16, sI (((bxo (S / 16) a : Nat) : Int))], g)) rfl ?_
        refine s_mul (a := ((bxo (S / 16) a : Nat) : Int)) (b := 16) rfl rfl ?_
        refine sP 2 (g1 := (100, [some (.ref 13), some (.ref 3), some (.ref (21 + 2 * r)), some (sI al), some (sI ((tl : Int))), some (sI ((hd : Int))), some (sI ((S : Int))), some (sI ((w : Int))), some (sI ((a : Int))), some (sI (((bxo (S / 16) a : Nat) : Int))), X10], [sI 16, sI ((S : Int)), sI ((((bxo (S / 16) a : Nat) : Int)) * 16)], g)) rfl ?_
        refine s_remN (a := S) (b := 16) rfl rfl (by omega) (by omega) (by omega) ?_
        refine sP 1 (g1 := (102, [some (.ref 13), some (.ref 3), some (.ref (21 + 2 * r)), some (sI al), some (sI ((tl : Int))), some (sI ((hd : Int))), some (sI ((S : Int))), some (sI ((w : Int))), some (sI ((a : Int))), some (sI (((bxo (S / 16) a : Nat) : Int))), X10], [.ref 13, sI (((S % 16 : Nat) : Int)), sI ((((bxo (S / 16) a : Nat) : Int)) * 16)], g)) rfl ?_
        refine s_get (a := 13) (j := 0) hg rfl ⟨_, rfl⟩ rfl rfl rfl (v := .ref 14) (hR_ok hg (by decide +kernel)) ?_
        refine sP 1 (g1 := (104, [some (.ref 13), some (.ref 3), some (.ref (21 + 2 * r)), some (sI al), some (sI ((tl : Int))), some (sI ((hd : Int))), some (sI ((S : Int))), some (sI ((w : Int))), some (sI ((a : Int))), some (sI (((bxo (S / 16) a : Nat) : Int))), X10], [sI (((bxo (S / 16) a : Nat) : Int)), .ref 14, sI (((S % 16 : Nat) : Int)), sI ((((bxo (S / 16) a : Nat) : Int)) * 16)], g)) rfl ?_
        refine s_iald (a := 14) (n := 64) (j := ((bxo (S / 16) a : Nat) : Int)) hg rfl rfl rfl (by omega) (by omega) (by decide) (v := sI ((G (bxo (S / 16) a) : Int))) (by rw [Int.toNat_natCast]; have q := hI_ok hg (w14 (show bxo (S / 16) a < 64 by omega)); rw [g_g _ (by omega)] at q; exact q) ?_
        refine s_b1 (w := Int32.ofInt (((S % 16) ||| G (bxo (S / 16) a) : Nat) : Int)) rfl rfl (b_or16 (S % 16) (by omega) (G (bxo (S / 16) a)) (by omega)) ?_
        refine s_add (a := (((bxo (S / 16) a : Nat) : Int)) * 16) (b := (((S % 16) ||| G (bxo (S / 16) a) : Nat) : Int)) rfl rfl ?_
        rw [show (((((bxo (S / 16) a : Nat) : Int)) * 16) + ((((S % 16) ||| G (bxo (S / 16) a) : Nat) : Int)) : Int) = ((nxG G S a : Nat) : Int) by unfold nxG; omega]
        refine sP 2 (g1 := (109, [some (.ref 13), some (.ref 3), some (.ref (21 + 2 * r)), some (sI al), some (sI ((tl : Int))), some (sI ((hd : Int))), some (sI ((S : Int))), some (sI ((w : Int))), some (sI ((a : Int))), some (sI (((bxo (S / 16) a : Nat) : Int))), some (sI (((nxG G S a : Nat) : Int)))], [.ref 13], g)) rfl ?_
        refine s_get (a := 13) (j := 2) hg rfl ⟨_, rfl⟩ rfl rfl rfl (v := .ref 16) (hR_ok hg (by decide +kernel)) ?_
        refine sP 1 (g1 := (111, [some (.ref 13), some (.ref 3), some (.ref (21 + 2 * r)), some (sI al), some (sI ((tl : Int))), some (sI ((hd : Int))), some (sI ((S : Int))), some (sI ((w : Int))), some (sI ((a : Int))), some (sI (((bxo (S / 16) a : Nat) : Int))), some (sI (((nxG G S a : Nat) : Int)))], [sI (((nxG G S a : Nat) : Int)), .ref 16], g)) rfl ?_
        refine s_iald (a := 16) (n := 1024) (j := ((nxG G S a : Nat) : Int)) hg rfl rfl rfl (by omega) (by omega) (by decide) (v := sI ((R (nxG G S a) : Int))) (by rw [Int.toNat_natCast]; have q := hI_ok hg (w16 (show nxG G S a < 1024 by omega)); rw [r_g _ (by omega)] at q; exact q) ?_
        refine s_ifc (q := .ne) (a := (R (nxG G S a) : Int)) rfl ⟨_, rfl⟩ rfl (by unfold sR aMi aMa; omega) (fun hc2 => ?_) (fun hc2 => ?_)
        · have hc2 : (((R (nxG G S a) : Int)) : Int) ≠ 0 := hc2
          refine s_inc (a := (a : Int)) (n := 1) (k := 8) rfl rfl rfl ?_
          refine sP 1 (g1 := (83, [some (.ref 13), some (.ref 3), some (.ref (21 + 2 * r)), some (sI al), some (sI ((tl : Int))), some (sI ((hd : Int))), some (sI ((S : Int))), some (sI ((w : Int))), some (sI (((a : Int)) + 1)), some (sI (((bxo (S / 16) a : Nat) : Int))), some (sI (((nxG G S a : Nat) : Int)))], [], g)) rfl ?_
          rw [show ((a : Int) + 1) = ((a + 1 : Nat) : Int) by omega]
          exact i1 q hq
        · have hc2 : ¬ ((((R (nxG G S a) : Int)) : Int) ≠ 0) := hc2
          omega
theorem fWkO {n r K q s0 : Nat} {G : Nat → Nat} {al : Int} (hr : r < 6) (hn6 : n ≤ 6) (hK : K ≤ 4) (hal : al = ((2 ^ K - 1 : Nat) : Int)) (hq : 2 ^ n = q) (hG : ∀ t, G t < 2 ^ K) (n_b : hI b 3 3 = (n : Int)) (g_b : ∀ t, t < q → hI b 14 t = (G t : Int)) : ∀ (c hd tl : Nat) (g : mH) (Q R : Nat → Nat) (X6 X7 X8 X9 X10 : Option Value), hd + c = 1025 → wkC b g Q R tl → bfO (nxG G) (glK K) (vlK n K) n s0 hd tl Q R → ∃ z g1, nRn sc (d + 6) (mMT mMe86) (mMC mMe86) (43, [some (.ref 13), some (.ref 3), some (.ref (21 + 2 * r)), some (sI al), some (sI ((tl : Int))), some (sI ((hd : Int))), X6, X7, X8, X9, X10], [], g) (some (sI z), g1) ∧ aHp g1 ∧ (∀ p m, ¬ (p = 13 ∧ m = 3) → p ≠ 15 → p ≠ 16 → aSlot g1 p m = aSlot b p m) ∧ ((∃ w, bsW (nxG G) (glK K) n s0 w ∧ w < 8192 ∧ z = ((w / 8 : Nat) : Int) ∧ hI g1 13 3 = (if w = 0 then -9 else ((w % 8 : Nat) : Int))) ∨ ((∀ l, okW n l → ¬ glK K (rnW (nxG G) s0 l)) ∧ z = -9)) := by
  have p2 := p2_le hn6
  have p4 := p2_4 hK
  have hV := vlK_ok hn6 hK hG
  intro c
  induction c with
  | zero =>
    intro hd tl g Q R X6 X7 X8 X9 X10 hc hC hO
    have tc := cnW_le R 1024
    have t6 := hO.1.2.2.2.2.2.1
    have t7 := hO.2.1
    omega
  | succ c ih =>
    intro hd tl g Q R X6 X7 X8 X9 X10 hc hC hO
    obtain ⟨hg, f_g, q_g, r_g⟩ := id hC
    obtain ⟨⟨⟨k0, k00, k1⟩, k2, k3, k4, k5, k6, k7, k8⟩, o2, o3⟩ := id hO
    have tc := cnW_le R 1024
    by_cases hl : hd < tl
    · have v1 := (k2 hd hl).1
      have w1 := (k2 hd hl).2
      have v2 := (hV _ v1).1
      obtain ⟨w, ew⟩ : ∃ w, R (Q hd) = w + 1 := ⟨R (Q hd) - 1, by omega⟩
      by_cases hgl : glK K (Q hd)
      · have bf := bf_found hV hn6 hO hl hgl
        rw [ew] at bf
        have hgl : Q hd % 16 = 2 ^ K - 1 := hgl
        by_cases w0 : w = 0
        · obtain ⟨g1, eg1⟩ : ∃ gz, gz = hset g 13 3 (sI (-9)) := ⟨_, rfl⟩
          have sg1 : ∀ xa xm, aSlot g1 xa xm = if xa = 13 ∧ xm = 3 then some (sI (-9)) else aSlot g xa xm := fun xa xm => by rw [eg1]; exact hset_slot hg (show sTg 13 = some (3, 4) from rfl) (by omega) xa xm
          have hg1 : aHp g1 := by rw [eg1]; exact hset_ii hg (show zIn 13 3 (-2147483648) 2147483647 = true by decide +kernel) (by omega) (by omega) (by unfold sR aMi aMa; omega)
          refine ⟨((w / 8 : Nat) : Int), g1, ?_, hg1, fun p m w1 w2 w3 => by rw [sg1, if_neg w1]; exact f_g p m w2 w3, Or.inl ⟨w, bf.1, by omega, rfl, ?_⟩⟩
          rotate_left
          · rw [if_pos w0]
            exact hI_si (by rw [sg1, if_pos ⟨rfl, rfl⟩]) (by unfold sR aMi aMa; omega)
          refine sP 2 (g1 := (45, [some (.ref 13), some (.ref 3), some (.ref (21 + 2 * r)), some (sI al), some (sI ((tl : Int))), some (sI ((hd : Int))), X6, X7, X8, X9, X10], [sI ((tl : Int)), sI ((hd : Int))], g)) rfl ?_
          refine s_icmp (q := .ge) (a := (hd : Int)) (b := (tl : Int)) rfl ⟨_, rfl⟩ rfl (by unfold sR aMi aMa; omega) (by unfold sR aMi aMa; omega) (fun hc1 => ?_) (fun hc1 => ?_)
          · have hc1 : (((tl : Int)) : Int) ≤ ((hd : Int)) := hc1
            omega
          · have hc1 : ¬ ((((tl : Int)) : Int) ≤ ((hd : Int))) := hc1
            refine sP 2 (g1 := (48, [some (.ref 13), some (.ref 3), some (.ref (21 + 2 * r)), some (sI al), some (sI ((tl : Int))), some (sI ((hd : Int))), X6, X7, X8, X9, X10], [.ref 13, sI ((hd : Int))], g)) rfl ?_
            refine s_get (a := 13) (j := 1) hg rfl ⟨_, rfl⟩ rfl rfl rfl (v := .ref 15) (hR_ok hg (by decide +kernel)) ?_
            refine s_len (a := 15) (n := 1024) hg rfl rfl rfl (by decide) ?_
            refine s_icmp (q := .ge) (a := (hd : Int)) (b := (1024 : Nat)) rfl ⟨_, rfl⟩ rfl (by unfold sR aMi aMa; omega) (by unfold sR aMi aMa; omega) (fun hc2 => ?_) (fun hc2 => ?_)
            · have hc2 : (((1024 : Nat)) : Int) ≤ ((hd : Int)) := hc2
              omega
            · have hc2 : ¬ ((((1024 : Nat)) : Int) ≤ ((hd : Int))) := hc2
              refine sP 1 (g1 := (52, [some (.ref 13), some (.ref 3), some (.ref (21 + 2 * r)), some (sI al), some (sI ((tl : Int))), some (sI ((hd : Int))), X6, X7, X8, X9, X10], [.ref 13], g)) rfl ?_
              refine s_get (a := 13) (j := 1) hg rfl ⟨_, rfl⟩ rfl rfl rfl (v := .ref 15) (hR_ok hg (by decide +kernel)) ?_
              refine sP 1 (g1 := (54, [some (.ref 13), some (.ref 3), some (.ref (21 + 2 * r)), some (sI al), some (sI ((tl : Int))), some (sI ((hd : Int))), X6, X7, X8, X9, X10], [sI ((hd : Int)), .ref 15], g)) rfl ?_
              refine s_iald (a := 15) (n := 1024) (j := (hd : Int)) hg rfl rfl rfl (by omega) (by omega) (by decide) (v := sI ((Q hd : Int))) (by rw [Int.toNat_natCast]; have q := hI_ok hg (w15 (show hd < 1024 by omega)); rw [q_g _ (by omega)] at q; exact q) ?_
              refine sP 2 (g1 := (57, [some (.ref 13), some (.ref 3), some (.ref (21 + 2 * r)), some (sI al), some (sI ((tl : Int))), some (sI ((hd : Int))), some (sI ((Q hd : Int))), X7, X8, X9, X10], [.ref 13], g)) rfl ?_
              refine s_get (a := 13) (j := 2) hg rfl ⟨_, rfl⟩ rfl rfl rfl (v := .ref 16) (hR_ok hg (by decide +kernel)) ?_
              refine sP 1 (g1 := (59, [some (.ref 13), some (.ref 3), some (.ref (21 + 2 * r)), some (sI al), some (sI ((tl : Int))), some (sI ((hd : Int))), some (sI ((Q hd : Int))), X7, X8, X9, X10], [sI ((Q hd : Int)), .ref 16], g)) rfl ?_
              refine s_iald (a := 16) (n := 1024) (j := (Q hd : Int)) hg rfl rfl rfl (by omega) (by omega) (by decide) (v := sI ((R (Q hd) : Int))) (by rw [Int.toNat_natCast]; have q := hI_ok hg (w16 (show Q hd < 1024 by omega)); rw [r_g _ (by omega)] at q; exact q) ?_
              refine sP 1 (g1 := (61, [some (.ref 13), some (.ref 3), some (.ref (21 + 2 * r)), some (sI al), some (sI ((tl : Int))), some (sI ((hd : Int))), some (sI ((Q hd : Int))), X7, X8, X9, X10], [sI 1, sI ((R (Q hd) : Int))], g)) rfl ?_
              refine s_sub (a := (R (Q hd) : Int)) (b := 1) rfl rfl ?_
              rw [show (((R (Q hd) : Int)) - 1 : Int) = (w : Int) by omega]
              refine sP 3 (g1 := (65, [some (.ref 13), some (.ref 3), some (.ref (21 + 2 * r)), some (sI al), some (sI ((tl : Int))), some (sI ((hd : Int))), some (sI ((Q hd : Int))), some (sI ((w : Int))), X8, X9, X10], [sI 16, sI ((Q hd : Int))], g)) rfl ?_
              refine s_remN (a := Q hd) (b := 16) rfl rfl (by omega) (by omega) (by omega) ?_
              refine sP 1 (g1 := (67, [some (.ref 13), some (.ref 3), some (.ref (21 + 2 * r)), some (sI al), some (sI ((tl : Int))), some (sI ((hd : Int))), some (sI ((Q hd : Int))), some (sI ((w : Int))), X8, X9, X10], [sI al, sI (((Q hd % 16 : Nat) : Int))], g)) rfl ?_
              refine s_icmp (q := .ne) (a := ((Q hd % 16 : Nat) : Int)) (b := al) rfl ⟨_, rfl⟩ rfl (by unfold sR aMi aMa; omega) (by unfold sR aMi aMa; omega) (fun hc3 => ?_) (fun hc3 => ?_)
              · have hc3 : ((((Q hd % 16 : Nat) : Int)) : Int) ≠ al := hc3
                omega
              · have hc3 : ¬ (((((Q hd % 16 : Nat) : Int)) : Int) ≠ al) := hc3
                refine sP 2 (g1 := (70, [some (.ref 13), some (.ref 3), some (.ref (21 + 2 * r)), some (sI al), some (sI ((tl : Int))), some (sI ((hd : Int))), some (sI ((Q hd : Int))), some (sI ((w : Int))), X8, X9, X10], [sI ((w : Int)), .ref 13], g)) rfl ?_
                refine s_ifc (q := .ne) (a := (w : Int)) rfl ⟨_, rfl⟩ rfl (by unfold sR aMi aMa; omega) (fun hc4 => ?_) (fun hc4 => ?_)
                · have hc4 : (((w : Int)) : Int) ≠ 0 := hc4
                  omega
                · have hc4 : ¬ ((((w : Int)) : Int) ≠ 0) := hc4
                  refine sP 2 (g1 := (76, [some (.ref 13), some (.ref 3), some (.ref (21 + 2 * r)), some (sI al), some (sI ((tl : Int))), some (sI ((hd : Int))), some (sI ((Q hd : Int))), some (sI ((w : Int))), X8, X9, X10], [sI ((-9)), .ref 13], g)) rfl ?_
                  refine s_put (a := 13) (j := 3) (k := 3) (n := 4) hg rfl ⟨_, rfl⟩ (show sTg 13 = some (3, 4) from rfl) rfl rfl (by decide) rfl ?_
                  rw [← eg1]
                  refine sP 2 (g1 := (79, [some (.ref 13), some (.ref 3), some (.ref (21 + 2 * r)), some (sI al), some (sI ((tl : Int))), some (sI ((hd : Int))), some (sI ((Q hd : Int))), some (sI ((w : Int))), X8, X9, X10], [sI 8, sI ((w : Int))], g1)) rfl ?_
                  refine s_divN (a := w) (b := 8) rfl rfl (by omega) (by omega) (by omega) ?_
                  exact s_reti rfl rfl (Or.inl rfl) rfl rfl
        · obtain ⟨g1, eg1⟩ : ∃ gz, gz = hset g 13 3 (sI ((w % 8 : Nat) : Int)) := ⟨_, rfl⟩
          have sg1 : ∀ xa xm, aSlot g1 xa xm = if xa = 13 ∧ xm = 3 then some (sI ((w % 8 : Nat) : Int)) else aSlot g xa xm := fun xa xm => by rw [eg1]; exact hset_slot hg (show sTg 13 = some (3, 4) from rfl) (by omega) xa xm
          have hg1 : aHp g1 := by rw [eg1]; exact hset_ii hg (show zIn 13 3 (-2147483648) 2147483647 = true by decide +kernel) (by omega) (by omega) (by unfold sR aMi aMa; omega)
          refine ⟨((w / 8 : Nat) : Int), g1, ?_, hg1, fun p m w1 w2 w3 => by rw [sg1, if_neg w1]; exact f_g p m w2 w3, Or.inl ⟨w, bf.1, by omega, rfl, ?_⟩⟩
          rotate_left
          · rw [if_neg w0]
            exact hI_si (by rw [sg1, if_pos ⟨rfl, rfl⟩]) (by unfold sR aMi aMa; omega)
          refine sP 2 (g1 := (45, [some (.ref 13), some (.ref 3), some (.ref (21 + 2 * r)), some (sI al), some (sI ((tl : Int))), some (sI ((hd : Int))), X6, X7, X8, X9, X10], [sI ((tl : Int)), sI ((hd : Int))], g)) rfl ?_
          refine s_icmp (q := .ge) (a := (hd : Int)) (b := (tl : Int)) rfl ⟨_, rfl⟩ rfl (by unfold sR aMi aMa; omega) (by unfold sR aMi aMa; omega) (fun hc1 => ?_) (fun hc1 => ?_)
          · have hc1 : (((tl : Int)) : Int) ≤ ((hd : Int)) := hc1
            omega
          · have hc1 : ¬ ((((tl : Int)) : Int) ≤ ((hd : Int))) := hc1
            refine sP 2 (g1 := (48, [some (.ref 13), some (.ref 3), some (.ref (21 + 2 * r)), some (sI al), some (sI ((tl : Int))), some (sI ((hd : Int))), X6, X7, X8, X9, X10], [.ref 13, sI ((hd : Int))], g)) rfl ?_
            refine s_get (a := 13) (j := 1) hg rfl ⟨_, rfl⟩ rfl rfl rfl (v := .ref 15) (hR_ok hg (by decide +kernel)) ?_
            refine s_len (a := 15) (n := 1024) hg rfl rfl rfl (by decide) ?_
            refine s_icmp (q := .ge) (a := (hd : Int)) (b := (1024 : Nat)) rfl ⟨_, rfl⟩ rfl (by unfold sR aMi aMa; omega) (by unfold sR aMi aMa; omega) (fun hc2 => ?_) (fun hc2 => ?_)
            · have hc2 : (((1024 : Nat)) : Int) ≤ ((hd : Int)) := hc2
              omega
            · have hc2 : ¬ ((((1024 : Nat)) : Int) ≤ ((hd : Int))) := hc2
              refine sP 1 (g1 := (52, [some (.ref 13), some (.ref 3), some (.ref (21 + 2 * r)), some (sI al), some (sI ((tl : Int))), some (sI ((hd : Int))), X6, X7, X8, X9, X10], [.ref 13], g)) rfl ?_
              refine s_get (a := 13) (j := 1) hg rfl ⟨_, rfl⟩ rfl rfl rfl (v := .ref 15) (hR_ok hg (by decide +kernel)) ?_
              refine sP 1 (g1 := (54, [some (.ref 13), some (.ref 3), some (.ref (21 + 2 * r)), some (sI al), some (sI ((tl : Int))), some (sI ((hd : Int))), X6, X7, X8, X9, X10], [sI ((hd : Int)), .ref 15], g)) rfl ?_
              refine s_iald (a := 15) (n := 1024) (j := (hd : Int)) hg rfl rfl rfl (by omega) (by omega) (by decide) (v := sI ((Q hd : Int))) (by rw [Int.toNat_natCast]; have q := hI_ok hg (w15 (show hd < 1024 by omega)); rw [q_g _ (by omega)] at q; exact q) ?_
              refine sP 2 (g1 := (57, [some (.ref 13), some (.ref 3), some (.ref (21 + 2 * r)), some (sI al), some (sI ((tl : Int))), some (sI ((hd : Int))), some (sI ((Q hd : Int))), X7, X8, X9, X10], [.ref 13], g)) rfl ?_
              refine s_get (a := 13) (j := 2) hg rfl ⟨_, rfl⟩ rfl rfl rfl (v := .ref 16) (hR_ok hg (by decide +kernel)) ?_
              refine sP 1 (g1 := (59, [some (.ref 13), some (.ref 3), some (.ref (21 + 2 * r)), some (sI al), some (sI ((tl : Int))), some (sI ((hd : Int))), some (sI ((Q hd : Int))), X7, X8, X9, X10], [sI ((Q hd : Int)), .ref 16], g)) rfl ?_
              refine s_iald (a := 16) (n := 1024) (j := (Q hd : Int)) hg rfl rfl rfl (by omega) (by omega) (by decide) (v := sI ((R (Q hd) : Int))) (by rw [Int.toNat_natCast]; have q := hI_ok hg (w16 (show Q hd < 1024 by omega)); rw [r_g _ (by omega)] at q; exact q) ?_
              refine sP 1 (g1 := (61, [some (.ref 13), some (.ref 3), some (.ref (21 + 2 * r)), some (sI al), some (sI ((tl : Int))), some (sI ((hd : Int))), some (sI ((Q hd : Int))), X7, X8, X9, X10], [sI 1, sI ((R (Q hd) : Int))], g)) rfl ?_
              refine s_sub (a := (R (Q hd) : Int)) (b := 1) rfl rfl ?_
              rw [show (((R (Q hd) : Int)) - 1 : Int) = (w : Int) by omega]
              refine sP 3 (g1 := (65, [some (.ref 13), some (.ref 3), some (.ref (21 + 2 * r)), some (sI al), some (sI ((tl : Int))), some (sI ((hd : Int))), some (sI ((Q hd : Int))), some (sI ((w : Int))), X8, X9, X10], [sI 16, sI ((Q hd : Int))], g)) rfl ?_
              refine s_remN (a := Q hd) (b := 16) rfl rfl (by omega) (by omega) (by omega) ?_
              refine sP 1 (g1 := (67, [some (.ref 13), some (.ref 3), some (.ref (21 + 2 * r)), some (sI al), some (sI ((tl : Int))), some (sI ((hd : Int))), some (sI ((Q hd : Int))), some (sI ((w : Int))), X8, X9, X10], [sI al, sI (((Q hd % 16 : Nat) : Int))], g)) rfl ?_
              refine s_icmp (q := .ne) (a := ((Q hd % 16 : Nat) : Int)) (b := al) rfl ⟨_, rfl⟩ rfl (by unfold sR aMi aMa; omega) (by unfold sR aMi aMa; omega) (fun hc3 => ?_) (fun hc3 => ?_)
              · have hc3 : ((((Q hd % 16 : Nat) : Int)) : Int) ≠ al := hc3
                omega
              · have hc3 : ¬ (((((Q hd % 16 : Nat) : Int)) : Int) ≠ al) := hc3
                refine sP 2 (g1 := (70, [some (.ref 13), some (.ref 3), some (.ref (21 + 2 * r)), some (sI al), some (sI ((tl : Int))), some (sI ((hd : Int))), some (sI ((Q hd : Int))), some (sI ((w : Int))), X8, X9, X10], [sI ((w : Int)), .ref 13], g)) rfl ?_
                refine s_ifc (q := .ne) (a := (w : Int)) rfl ⟨_, rfl⟩ rfl (by unfold sR aMi aMa; omega) (fun hc4 => ?_) (fun hc4 => ?_)
                · have hc4 : (((w : Int)) : Int) ≠ 0 := hc4
                  refine sP 2 (g1 := (75, [some (.ref 13), some (.ref 3), some (.ref (21 + 2 * r)), some (sI al), some (sI ((tl : Int))), some (sI ((hd : Int))), some (sI ((Q hd : Int))), some (sI ((w : Int))), X8, X9, X10], [sI 8, sI ((w : Int)), .ref 13], g)) rfl ?_
                  refine s_remN (a := w) (b := 8) rfl rfl (by omega) (by omega) (by omega) ?_
                  refine s_put (a := 13) (j := 3) (k := 3) (n := 4) hg rfl ⟨_, rfl⟩ (show sTg 13 = some (3, 4) from rfl) rfl rfl (by decide) rfl ?_
                  rw [← eg1]
                  refine sP 2 (g1 := (79, [some (.ref 13), some (.ref 3), some (.ref (21 + 2 * r)), some (sI al), some (sI ((tl : Int))), some (sI ((hd : Int))), some (sI ((Q hd : Int))), some (sI ((w : Int))), X8, X9, X10], [sI 8, sI ((w : Int))], g1)) rfl ?_
                  refine s_divN (a := w) (b := 8) rfl rfl (by omega) (by omega) (by omega) ?_
                  exact s_reti rfl rfl (Or.inl rfl) rfl rfl
                · have hc4 : ¬ ((((w : Int)) : Int) ≠ 0) := hc4
                  omega
      · have hJ := bf_begin hO hl hgl
        obtain ⟨g1, tl1, Q1, R1, Y8, Y9, Y10, i1, i2, i3⟩ := fWkI (sc := sc) (d := d) (b := b) (al := al) (S := Q hd) (w := w) hr hn6 hK hq hG n_b g_b n 0 tl g Q R X9 X10 (by omega) hC hJ rfl ew
        obtain ⟨z, g2, j1, j2, j3, j4⟩ := ih (hd + 1) tl1 g1 Q1 R1 (some (sI (Q hd : Int))) (some (sI (w : Int))) Y8 Y9 Y10 (by omega) i2 (bf_end hn6 i3)
        have hgl : ¬ Q hd % 16 = 2 ^ K - 1 := hgl
        refine ⟨z, g2, ?_, j2, j3, j4⟩
        refine sP 2 (g1 := (45, [some (.ref 13), some (.ref 3), some (.ref (21 + 2 * r)), some (sI al), some (sI ((tl : Int))), some (sI ((hd : Int))), X6, X7, X8, X9, X10], [sI ((tl : Int)), sI ((hd : Int))], g)) rfl ?_
        refine s_icmp (q := .ge) (a := (hd : Int)) (b := (tl : Int)) rfl ⟨_, rfl⟩ rfl (by unfold sR aMi aMa; omega) (by unfold sR aMi aMa; omega) (fun hc1 => ?_) (fun hc1 => ?_)
        · have hc1 : (((tl : Int)) : Int) ≤ ((hd : Int)) := hc1
          omega
        · have hc1 : ¬ ((((tl : Int)) : Int) ≤ ((hd : Int))) := hc1
          refine sP 2 (g1 := (48, [some (.ref 13), some (.ref 3), some (.ref (21 + 2 * r)), some (sI al), some (sI ((tl : Int))), some (sI ((hd : Int))), X6, X7, X8, X9, X10], [.ref 13, sI ((hd : Int))], g)) rfl ?_
          refine s_get (a := 13) (j := 1) hg rfl ⟨_, rfl⟩ rfl rfl rfl (v := .ref 15) (hR_ok hg (by decide +kernel)) ?_
          refine s_len (a := 15) (n := 1024) hg rfl rfl rfl (by decide) ?_
          refine s_icmp (q := .ge) (a := (hd : Int)) (b := (1024 : Nat)) rfl ⟨_, rfl⟩ rfl (by unfold sR aMi aMa; omega) (by unfold sR aMi aMa; omega) (fun hc2 => ?_) (fun hc2 => ?_)
          · have hc2 : (((1024 : Nat)) : Int) ≤ ((hd : Int)) := hc2
            omega
          · have hc2 : ¬ ((((1024 : Nat)) : Int) ≤ ((hd : Int))) := hc2
            refine sP 1 (g1 := (52, [some (.ref 13), some (.ref 3), some (.ref (21 + 2 * r)), some (sI al), some (sI ((tl : Int))), some (sI ((hd : Int))), X6, X7, X8, X9, X10], [.ref 13], g)) rfl ?_
            refine s_get (a := 13) (j := 1) hg rfl ⟨_, rfl⟩ rfl rfl rfl (v := .ref 15) (hR_ok hg (by decide +kernel)) ?_
            refine sP 1 (g1 := (54, [some (.ref 13), some (.ref 3), some (.ref (21 + 2 * r)), some (sI al), some (sI ((tl : Int))), some (sI ((hd : Int))), X6, X7, X8, X9, X10], [sI ((hd : Int)), .ref 15], g)) rfl ?_
            refine s_iald (a := 15) (n := 1024) (j := (hd : Int)) hg rfl rfl rfl (by omega) (by omega) (by decide) (v := sI ((Q hd : Int))) (by rw [Int.toNat_natCast]; have q := hI_ok hg (w15 (show hd < 1024 by omega)); rw [q_g _ (by omega)] at q; exact q) ?_
            refine sP 2 (g1 := (57, [some (.ref 13), some (.ref 3), some (.ref (21 + 2 * r)), some (sI al), some (sI ((tl : Int))), some (sI ((hd : Int))), some (sI ((Q hd : Int))), X7, X8, X9, X10], [.ref 13], g)) rfl ?_
            refine s_get (a := 13) (j := 2) hg rfl ⟨_, rfl⟩ rfl rfl rfl (v := .ref 16) (hR_ok hg (by decide +kernel)) ?_
            refine sP 1 (g1 := (59, [some (.ref 13), some (.ref 3), some (.ref (21 + 2 * r)), some (sI al), some (sI ((tl : Int))), some (sI ((hd : Int))), some (sI ((Q hd : Int))), X7, X8, X9, X10], [sI ((Q hd : Int)), .ref 16], g)) rfl ?_
            refine s_iald (a := 16) (n := 1024) (j := (Q hd : Int)) hg rfl rfl rfl (by omega) (by omega) (by decide) (v := sI ((R (Q hd) : Int))) (by rw [Int.toNat_natCast]; have q := hI_ok hg (w16 (show Q hd < 1024 by omega)); rw [r_g _ (by omega)] at q; exact q) ?_
            refine sP 1 (g1 := (61, [some (.ref 13), some (.ref 3), some (.ref (21 + 2 * r)), some (sI al), some (sI ((tl : Int))), some (sI ((hd : Int))), some (sI ((Q hd : Int))), X7, X8, X9, X10], [sI 1, sI ((R (Q hd) : Int))], g)) rfl ?_
            refine s_sub (a := (R (Q hd) : Int)) (b := 1) rfl rfl ?_
            rw [show (((R (Q hd) : Int)) - 1 : Int) = (w : Int) by omega]
            refine sP 3 (g1 := (65, [some (.ref 13), some (.ref 3), some (.ref (21 + 2 * r)), some (sI al), some (sI ((tl : Int))), some (sI ((hd : Int))), some (sI ((Q hd : Int))), some (sI ((w : Int))), X8, X9, X10], [sI 16, sI ((Q hd : Int))], g)) rfl ?_
            refine s_remN (a := Q hd) (b := 16) rfl rfl (by omega) (by omega) (by omega) ?_
            refine sP 1 (g1 := (67, [some (.ref 13), some (.ref 3), some (.ref (21 + 2 * r)), some (sI al), some (sI ((tl : Int))), some (sI ((hd : Int))), some (sI ((Q hd : Int))), some (sI ((w : Int))), X8, X9, X10], [sI al, sI (((Q hd % 16 : Nat) : Int))], g)) rfl ?_
            refine s_icmp (q := .ne) (a := ((Q hd % 16 : Nat) : Int)) (b := al) rfl ⟨_, rfl⟩ rfl (by unfold sR aMi aMa; omega) (by unfold sR aMi aMa; omega) (fun hc3 => ?_) (fun hc3 => ?_)
            · have hc3 : ((((Q hd % 16 : Nat) : Int)) : Int) ≠ al := hc3
              refine sP 2 (g1 := (83, [some (.ref 13), some (.ref 3), some (.ref (21 + 2 * r)), some (sI al), some (sI ((tl : Int))), some (sI ((hd : Int))), some (sI ((Q hd : Int))), some (sI ((w : Int))), some (sI 0), X9, X10], [], g)) rfl ?_
              refine i1 _ ?_
              refine s_inc (a := (hd : Int)) (n := 1) (k := 5) rfl rfl rfl ?_
              refine sP 1 (g1 := (43, [some (.ref 13), some (.ref 3), some (.ref (21 + 2 * r)), some (sI al), some (sI ((tl1 : Int))), some (sI (((hd : Int)) + 1)), some (sI ((Q hd : Int))), some (sI ((w : Int))), Y8, Y9, Y10], [], g1)) rfl ?_
              rw [show ((hd : Int) + 1) = ((hd + 1 : Nat) : Int) by omega]
              exact j1
            · have hc3 : ¬ (((((Q hd % 16 : Nat) : Int)) : Int) ≠ al) := hc3
              omega
    · have e : hd = tl := by omega
      subst e
      refine ⟨-9, g, ?_, hg, fun p m _ w2 w3 => f_g p m w2 w3, Or.inr ⟨bf_none hV hn6 hO, rfl⟩⟩
      refine sP 2 (g1 := (45, [some (.ref 13), some (.ref 3), some (.ref (21 + 2 * r)), some (sI al), some (sI ((hd : Int))), some (sI ((hd : Int))), X6, X7, X8, X9, X10], [sI ((hd : Int)), sI ((hd : Int))], g)) rfl ?_
      refine s_icmp (q := .ge) (a := (hd : Int)) (b := (hd : Int)) rfl ⟨_, rfl⟩ rfl (by unfold sR aMi aMa; omega) (by unfold sR aMi aMa; omega) (fun hc1 => ?_) (fun hc1 => ?_)
      · have hc1 : (((hd : Int)) : Int) ≤ ((hd : Int)) := hc1
        refine sP 1 (g1 := (144, [some (.ref 13), some (.ref 3), some (.ref (21 + 2 * r)), some (sI al), some (sI ((hd : Int))), some (sI ((hd : Int))), X6, X7, X8, X9, X10], [sI ((-9))], g)) rfl ?_
        exact s_reti rfl rfl (Or.inl rfl) rfl rfl
      · have hc1 : ¬ ((((hd : Int)) : Int) ≤ ((hd : Int))) := hc1
        omega
theorem fFewX {n r K U : Nat} {pr G : Nat → Nat} {F : Nat → Nat → Bool} {g : mH} (hr : r < 6) (hK : K ≤ 4) (hn6 : n ≤ 6) (hp : ∀ i, i < 2 * K → pr i < n) (hB : wkB g n r K pr) (u_g : hI g 3 4 = (U : Int)) (hU : U < 2 ^ n) (hF : ∀ s, s < 2 ^ n → ∀ j, j < K → agX g n s (pr (2 * j)) (pr (2 * j + 1)) = F s j) (hG : ∀ t, G t = pFw (F t) K) : ∃ z g1, nEv sc (d + 7) 86 [.ref 13, .ref 3, .ref (21 + 2 * r)] g (some (sI z), g1) ∧ aHp g1 ∧ (∀ p m, ¬ (p = 13 ∧ m = 3) → p ≠ 14 → p ≠ 15 → p ≠ 16 → aSlot g1 p m = aSlot g p m) ∧ ((∃ w, bsW (nxG G) (glK K) n (16 * U + G U) w ∧ w < 8192 ∧ z = ((w / 8 : Nat) : Int) ∧ hI g1 13 3 = (if w = 0 then -9 else ((w % 8 : Nat) : Int))) ∨ ((∀ l, okW n l → ¬ glK K (rnW (nxG G) (16 * U + G U) l)) ∧ z = -9)) := by
  have p2 := p2_le hn6
  have p4 := p2_4 hK
  have gl : ∀ t, G t < 2 ^ K := fun t => by rw [hG]; exact pFw_lt _ _
  have gU := gl U
  obtain ⟨hg, n_g, z_g, p_g⟩ := id hB
  obtain ⟨g1, el, hg1, m1, f1⟩ := fLearn (sc := sc) (d := d) hr hK hn6 hp hB hF
  obtain ⟨g2, ef, hg2, f2⟩ := fFillG (sc := sc) (d := d + 5) (p := 16) (n := 1024) (v := 0) rfl (by decide) (fun g j hg hj => hset_any hg (w16i hj)) hg1
  have k2 : ∀ p m, p ≠ 14 → p ≠ 16 → aSlot g2 p m = aSlot g p m := fun p m w1 w2 => by rw [f2, if_neg (by omega), f1 p m w1]
  have n_g2 : hI g2 3 3 = (n : Int) := by rw [hI_cg (k2 3 3 (by omega) (by omega))]; exact n_g
  have u_g2 : hI g2 3 4 = (U : Int) := by rw [hI_cg (k2 3 4 (by omega) (by omega))]; exact u_g
  have z_g2 : hI g2 (21 + 2 * r) 1 = 2 * (K : Int) := by rw [hI_cg (k2 _ 1 (by omega) (by omega))]; exact z_g
  have g_g2 : ∀ t, t < 2 ^ n → hI g2 14 t = (G t : Int) := fun t ht => by rw [hI_cg (show aSlot g2 14 t = aSlot g1 14 t by rw [f2, if_neg (by omega)]), m1 t ht, hG]
  obtain ⟨g3, eg3⟩ : ∃ gz, gz = hset g2 15 0 (sI ((16 * U + G U : Nat) : Int)) := ⟨_, rfl⟩
  have sg3 : ∀ xa xm, aSlot g3 xa xm = if xa = 15 ∧ xm = 0 then some (sI ((16 * U + G U : Nat) : Int)) else aSlot g2 xa xm := fun xa xm => by rw [eg3]; exact hset_slot hg2 (show sTg 15 = some (50, 1024) from rfl) (by omega) xa xm
  have hg3 : aHp g3 := by rw [eg3]; exact hset_ii hg2 (w15i (by omega)) (by omega) (by omega) (by unfold sR aMi aMa; omega)
  obtain ⟨g4, eg4⟩ : ∃ gz, gz = hset g3 16 ((16 * U + G U)) (sI 1) := ⟨_, rfl⟩
  have sg4 : ∀ xa xm, aSlot g4 xa xm = if xa = 16 ∧ xm = (16 * U + G U) then some (sI 1) else aSlot g3 xa xm := fun xa xm => by rw [eg4]; exact hset_slot hg3 (show sTg 16 = some (50, 1024) from rfl) (by omega) xa xm
  have hg4 : aHp g4 := by rw [eg4]; exact hset_ii hg3 (w16i (by omega)) (by omega) (by omega) (by unfold sR aMi aMa; omega)
  have k4 : ∀ p m, p ≠ 15 → p ≠ 16 → aSlot g4 p m = aSlot g2 p m := fun p m w1 w2 => by rw [sg4, if_neg (by omega), sg3, if_neg (by omega)]
  have v0 : vlK n K (16 * U + G U) := ⟨by omega, by omega⟩
  have hC : wkC g4 g4 (fun _ => 16 * U + G U) (fun s => if s = 16 * U + G U then 1 else 0) 1 := by
    refine ⟨hg4, fun p m _ _ => rfl, fun i hi => ?_, fun s hs => ?_⟩
    · rw [show i = 0 by omega]
      show hI g4 15 0 = ((16 * U + G U : Nat) : Int)
      exact hI_si (by rw [sg4, if_neg (by omega), sg3, if_pos ⟨rfl, rfl⟩]) (by unfold sR aMi aMa; omega)
    · show hI g4 16 s = ((if s = 16 * U + G U then 1 else 0 : Nat) : Int)
      by_cases e : s = 16 * U + G U
      · rw [if_pos e]
        exact hI_si (by rw [sg4, if_pos ⟨rfl, e⟩]; rfl) (by unfold sR aMi aMa; omega)
      · rw [if_neg e]
        exact hI_si (by rw [sg4, if_neg (by omega), sg3, if_neg (by omega), f2, if_pos ⟨rfl, hs⟩]; rfl) (by unfold sR aMi aMa; omega)
  obtain ⟨z, g5, i1, i2, i3, i4⟩ := fWkO (sc := sc) (d := d) (b := g4) (r := r) (al := ((2 ^ K : Nat) : Int) - 1) hr hn6 hK (by omega) rfl gl (by rw [hI_cg (k4 3 3 (by omega) (by omega))]; exact n_g2) (fun t ht => by rw [hI_cg (k4 14 t (by omega) (by omega))]; exact g_g2 t ht) 1025 0 1 g4 _ _ none none none none none (by omega) hC (bf_start v0 (by omega) rfl (fun s => rfl))
  refine ⟨z, g5, nEv_of (t := mMe86) rfl ?_, i2, fun p m w1 w2 w3 w4 => by rw [i3 p m w1 w3 w4, k4 p m w3 w4, k2 p m w2 w4], i4⟩
  show nRn sc (d + 6) (mMT mMe86) (mMC mMe86) (0, [some (.ref 13), some (.ref 3), some (.ref (21 + 2 * r)), none, none, none, none, none, none, none, none], [], g) _
  refine sP 3 (g1 := (3, [some (.ref 13), some (.ref 3), some (.ref (21 + 2 * r)), none, none, none, none, none, none, none, none], [.ref (21 + 2 * r), .ref 3, .ref 13], g)) rfl ?_
  refine s_call (k := 87) (args := [.ref 13, .ref 3, .ref (21 + 2 * r)]) (st := []) (v := none) (h1 := g1) rfl ⟨rfl, rfl⟩ rfl rfl rfl rfl (sRcv hg (a := 13) rfl rfl) rfl el ?_
  refine sP 1 (g1 := (5, [some (.ref 13), some (.ref 3), some (.ref (21 + 2 * r)), none, none, none, none, none, none, none, none], [.ref 13], g1)) rfl ?_
  refine s_get (a := 13) (j := 2) hg1 rfl ⟨_, rfl⟩ rfl rfl rfl (v := .ref 16) (hR_ok hg1 (by decide +kernel)) ?_
  refine sP 1 (g1 := (7, [some (.ref 13), some (.ref 3), some (.ref (21 + 2 * r)), none, none, none, none, none, none, none, none], [sI 0, .ref 16], g1)) rfl ?_
  refine s_call (k := 11) (args := [.ref 16, sI 0]) (st := []) (v := none) (h1 := g2) rfl ⟨rfl, rfl⟩ rfl rfl rfl rfl rfl rfl ef ?_
  refine sP 2 (g1 := (10, [some (.ref 13), some (.ref 3), some (.ref (21 + 2 * r)), none, none, none, none, none, none, none, none], [.ref (21 + 2 * r), sI 1], g2)) rfl ?_
  refine s_get (a := 21 + 2 * r) (j := 1) hg2 rfl ⟨_, rfl⟩ (ra_t hr) rfl rfl (v := sI (2 * (K : Int))) (by have q := hI_ok hg2 (ra_z hr); rw [z_g2] at q; exact q) ?_
  refine sP 1 (g1 := (12, [some (.ref 13), some (.ref 3), some (.ref (21 + 2 * r)), none, none, none, none, none, none, none, none], [sI 2, sI (2 * (K : Int)), sI 1], g2)) rfl ?_
  refine s_div (a := 2 * (K : Int)) (b := 2) rfl rfl (by omega) (by omega) (by omega) (by omega) ?_
  rw [show (2 * (K : Int)) / 2 = (K : Int) by omega]
  refine s_shl (a := K) rfl rfl (by omega) ?_
  refine sP 1 (g1 := (15, [some (.ref 13), some (.ref 3), some (.ref (21 + 2 * r)), none, none, none, none, none, none, none, none], [sI 1, sI (((2 ^ K : Nat) : Int))], g2)) rfl ?_
  refine s_sub (a := ((2 ^ K : Nat) : Int)) (b := 1) rfl rfl ?_
  refine sP 2 (g1 := (18, [some (.ref 13), some (.ref 3), some (.ref (21 + 2 * r)), some (sI ((((2 ^ K : Nat) : Int)) - 1)), none, none, none, none, none, none, none], [.ref 13], g2)) rfl ?_
  refine s_get (a := 13) (j := 1) hg2 rfl ⟨_, rfl⟩ rfl rfl rfl (v := .ref 15) (hR_ok hg2 (by decide +kernel)) ?_
  refine sP 2 (g1 := (21, [some (.ref 13), some (.ref 3), some (.ref (21 + 2 * r)), some (sI ((((2 ^ K : Nat) : Int)) - 1)), none, none, none, none, none, none, none], [.ref 3, sI 0, .ref 15], g2)) rfl ?_
  refine s_get (a := 3) (j := 4) hg2 rfl ⟨_, rfl⟩ rfl rfl rfl (v := sI ((U : Int))) (by have q := hI_ok hg2 xw_u; rw [u_g2] at q; exact q) ?_
  refine sP 1 (g1 := (23, [some (.ref 13), some (.ref 3), some (.ref (21 + 2 * r)), some (sI ((((2 ^ K : Nat) : Int)) - 1)), none, none, none, none, none, none, none], [sI 16, sI ((U : Int)), sI 0, .ref 15], g2)) rfl ?_
  refine s_mul (a := (U : Int)) (b := 16) rfl rfl ?_
  refine sP 1 (g1 := (25, [some (.ref 13), some (.ref 3), some (.ref (21 + 2 * r)), some (sI ((((2 ^ K : Nat) : Int)) - 1)), none, none, none, none, none, none, none], [.ref 13, sI (((U : Int)) * 16), sI 0, .ref 15], g2)) rfl ?_
  refine s_get (a := 13) (j := 0) hg2 rfl ⟨_, rfl⟩ rfl rfl rfl (v := .ref 14) (hR_ok hg2 (by decide +kernel)) ?_
  refine sP 1 (g1 := (27, [some (.ref 13), some (.ref 3), some (.ref (21 + 2 * r)), some (sI ((((2 ^ K : Nat) : Int)) - 1)), none, none, none, none, none, none, none], [.ref 3, .ref 14, sI (((U : Int)) * 16), sI 0, .ref 15], g2)) rfl ?_
  refine s_get (a := 3) (j := 4) hg2 rfl ⟨_, rfl⟩ rfl rfl rfl (v := sI ((U : Int))) (by have q := hI_ok hg2 xw_u; rw [u_g2] at q; exact q) ?_
  refine s_iald (a := 14) (n := 64) (j := (U : Int)) hg2 rfl rfl rfl (by omega) (by omega) (by decide) (v := sI ((G U : Int))) (by rw [Int.toNat_natCast]; have q := hI_ok hg2 (w14 (show U < 64 by omega)); rw [g_g2 _ hU] at q; exact q) ?_
  refine s_add (a := ((U : Int)) * 16) (b := (G U : Int)) rfl rfl ?_
  rw [show ((((U : Int)) * 16) + ((G U : Int)) : Int) = ((16 * U + G U : Nat) : Int) by omega]
  refine s_iast (a := 15) (n := 1024) (j := 0) hg2 rfl rfl (show sTg 15 = some (50, 1024) from rfl) (by omega) (by omega) (by decide) ?_
  rw [show (0 : Int).toNat = 0 by omega]
  rw [← eg3]
  refine sP 1 (g1 := (32, [some (.ref 13), some (.ref 3), some (.ref (21 + 2 * r)), some (sI ((((2 ^ K : Nat) : Int)) - 1)), none, none, none, none, none, none, none], [.ref 13], g3)) rfl ?_
  refine s_get (a := 13) (j := 2) hg3 rfl ⟨_, rfl⟩ rfl rfl rfl (v := .ref 16) (hR_ok hg3 (by decide +kernel)) ?_
  refine sP 1 (g1 := (34, [some (.ref 13), some (.ref 3), some (.ref (21 + 2 * r)), some (sI ((((2 ^ K : Nat) : Int)) - 1)), none, none, none, none, none, none, none], [.ref 13, .ref 16], g3)) rfl ?_
  refine s_get (a := 13) (j := 1) hg3 rfl ⟨_, rfl⟩ rfl rfl rfl (v := .ref 15) (hR_ok hg3 (by decide +kernel)) ?_
  refine sP 1 (g1 := (36, [some (.ref 13), some (.ref 3), some (.ref (21 + 2 * r)), some (sI ((((2 ^ K : Nat) : Int)) - 1)), none, none, none, none, none, none, none], [sI 0, .ref 15, .ref 16], g3)) rfl ?_
  refine s_iald (a := 15) (n := 1024) (j := 0) hg3 rfl rfl rfl (by omega) (by omega) (by decide) (v := sI (((16 * U + G U : Nat) : Int))) (by rw [show (0 : Int).toNat = 0 from rfl, sg3, if_pos ⟨rfl, rfl⟩]) ?_
  refine sP 1 (g1 := (38, [some (.ref 13), some (.ref 3), some (.ref (21 + 2 * r)), some (sI ((((2 ^ K : Nat) : Int)) - 1)), none, none, none, none, none, none, none], [sI 1, sI (((16 * U + G U : Nat) : Int)), .ref 16], g3)) rfl ?_
  refine s_iast (a := 16) (n := 1024) (j := ((16 * U + G U : Nat) : Int)) hg3 rfl rfl (show sTg 16 = some (50, 1024) from rfl) (by omega) (by omega) (by decide) ?_
  rw [show (((16 * U + G U : Nat) : Int) : Int).toNat = (16 * U + G U) by omega]
  rw [← eg4]
  refine sP 4 (g1 := (43, [some (.ref 13), some (.ref 3), some (.ref (21 + 2 * r)), some (sI ((((2 ^ K : Nat) : Int)) - 1)), some (sI 1), some (sI 0), none, none, none, none, none], [], g4)) rfl ?_
  exact i1
end WALK

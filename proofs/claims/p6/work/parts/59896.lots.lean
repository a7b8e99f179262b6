/-! lots -/
section LOT
variable {sc : List Int32} {d : Nat} {rt : Option FieldType} {cs : List mE} {i : Nat} {L : mL} {st : List Value} {h : mH} {r : mR} {en : mE}
theorem iDiv {a b : Nat} (ha : a < 2147483648) (hb : 0 < b) (hb2 : b < 2147483648) : Int32.ofInt (a : Int) / Int32.ofInt (b : Int) = Int32.ofInt ((a / b : Nat) : Int) ∧ Int32.ofInt (b : Int) ≠ 0 := by
  have ra : sR (a : Int) := by unfold sR aMi aMa; omega
  have rb : sR (b : Int) := by unfold sR aMi aMa; omega
  have hq : a / b ≤ a := Nat.div_le_self a b
  have hq0 : (0 : Int) ≤ ((a / b : Nat) : Int) := Int.natCast_nonneg _
  refine ⟨?_, fun q => ?_⟩
  · apply Int32.toInt_inj.mp
    rw [Int32.toInt_div_of_ne_left _ _ (fun q => by
      have := congrArg Int32.toInt q
      rw [sR_i ra] at this
      have hm : Int32.minValue.toInt = -2147483648 := rfl
      omega), sR_i ra, sR_i rb, sR_i (by unfold sR aMi aMa; omega), Int.tdiv_eq_ediv_of_nonneg (by omega)]
    exact (Int.natCast_ediv a b).symm
  · have := sR_inj rb (b := 0) (by unfold sR aMi aMa; omega) q
    omega
theorem lDiv {a b : Nat} (ha : a < 9223372036854775808) (hb : 0 < b) (hb2 : b < 9223372036854775808) : Int64.ofInt (a : Int) / Int64.ofInt (b : Int) = Int64.ofInt ((a / b : Nat) : Int) ∧ Int64.ofInt (b : Int) ≠ 0 := by
  have ra : sRJ (a : Int) := by unfold sRJ; omega
  have rb : sRJ (b : Int) := by unfold sRJ; omega
  have hq : a / b ≤ a := Nat.div_le_self a b
  have hq0 : (0 : Int) ≤ ((a / b : Nat) : Int) := Int.natCast_nonneg _
  refine ⟨?_, fun q => ?_⟩
  · apply Int64.toInt_inj.mp
    rw [Int64.toInt_div_of_ne_left _ _ (fun q => by
      have := congrArg Int64.toInt q
      rw [sRJ_i ra] at this
      have hm : Int64.minValue.toInt = -9223372036854775808 := rfl
      omega), sRJ_i ra, sRJ_i rb, sRJ_i (by unfold sRJ; omega), Int.tdiv_eq_ediv_of_nonneg (by omega)]
    exact (Int.natCast_ediv a b).symm
  · have e := congrArg Int64.toInt q
    rw [sRJ_i rb] at e
    have h0 : (0 : Int64).toInt = 0 := rfl
    omega
theorem nMod (a b : Nat) : (a : Int) - ((a / b : Nat) : Int) * (b : Int) = ((a % b : Nat) : Int) := by
  have e := Nat.div_add_mod a b
  have e2 : b * (a / b) = a / b * b := Nat.mul_comm _ _
  have e3 : (((a / b * b + a % b : Nat)) : Int) = (a : Int) := by rw [← e2, e]
  rw [Int.natCast_add, Int.natCast_mul] at e3
  omega
theorem s_divN {a b : Nat} (he : cs[i]? = some en) (ho : en.2.1 = .idiv) (ha : a < 2147483648) (hb : 0 < b) (hb2 : b < 2147483648) (hr : nRn sc d rt cs (i + 1, L, sI ((a / b : Nat) : Int) :: st, h) r) : nRn sc d rt cs (i, L, sI (b : Int) :: sI (a : Int) :: st, h) r := by
  obtain ⟨e1, e2⟩ := iDiv ha hb hb2
  refine s_bin he ?_ hr
  unfold mB1
  rw [ho]
  dsimp only
  rw [if_neg e2, e1]
theorem s_remN {a b : Nat} (he : cs[i]? = some en) (ho : en.2.1 = .irem) (ha : a < 2147483648) (hb : 0 < b) (hb2 : b < 2147483648) (hr : nRn sc d rt cs (i + 1, L, sI ((a % b : Nat) : Int) :: st, h) r) : nRn sc d rt cs (i, L, sI (b : Int) :: sI (a : Int) :: st, h) r := by
  obtain ⟨e1, e2⟩ := iDiv ha hb hb2
  refine s_bin he ?_ hr
  unfold mB1
  rw [ho]
  dsimp only
  rw [if_neg e2, e1, ← Int32.ofInt_mul, ← Int32.ofInt_sub, nMod]
theorem s_ldivN {a b : Nat} (he : cs[i]? = some en) (ho : en.2.1 = .ldiv) (ha : a < 9223372036854775808) (hb : 0 < b) (hb2 : b < 9223372036854775808) (hr : nRn sc d rt cs (i + 1, L, sJ ((a / b : Nat) : Int) :: st, h) r) : nRn sc d rt cs (i, L, sJ (b : Int) :: sJ (a : Int) :: st, h) r := by
  obtain ⟨e1, e2⟩ := lDiv ha hb hb2
  refine sStep he (by unfold nCl; rw [ho]; intro q; cases q) (fun call => mStep_B2 ?_) hr
  unfold mB2
  rw [ho]
  dsimp only
  rw [if_neg e2, e1]
theorem s_lremN {a b : Nat} (he : cs[i]? = some en) (ho : en.2.1 = .lrem) (ha : a < 9223372036854775808) (hb : 0 < b) (hb2 : b < 9223372036854775808) (hr : nRn sc d rt cs (i + 1, L, sJ ((a % b : Nat) : Int) :: st, h) r) : nRn sc d rt cs (i, L, sJ (b : Int) :: sJ (a : Int) :: st, h) r := by
  obtain ⟨e1, e2⟩ := lDiv ha hb hb2
  refine sStep he (by unfold nCl; rw [ho]; intro q; cases q) (fun call => mStep_B2 ?_) hr
  unfold mB2
  rw [ho]
  dsimp only
  rw [if_neg e2, e1, ← Int64.ofInt_mul, ← Int64.ofInt_sub, nMod]
theorem s_lmul {a b : Int} (he : cs[i]? = some en) (ho : en.2.1 = .lmul) (hr : nRn sc d rt cs (i + 1, L, sJ (a * b) :: st, h) r) : nRn sc d rt cs (i, L, sJ b :: sJ a :: st, h) r := by
  refine sStep he (by unfold nCl; rw [ho]; intro q; cases q) (fun call => mStep_B2 ?_) hr
  unfold mB2
  rw [ho]
  dsimp only
  rw [← Int64.ofInt_mul]
theorem s_ladd {a b : Int} (he : cs[i]? = some en) (ho : en.2.1 = .ladd) (hr : nRn sc d rt cs (i + 1, L, sJ (a + b) :: st, h) r) : nRn sc d rt cs (i, L, sJ b :: sJ a :: st, h) r := by
  refine sStep he (by unfold nCl; rw [ho]; intro q; cases q) (fun call => mStep_B2 ?_) hr
  unfold mB2
  rw [ho]
  dsimp only
  rw [← Int64.ofInt_add]
theorem s_l2i {a : Int} (he : cs[i]? = some en) (ho : en.2.1 = .l2i) (hr : nRn sc d rt cs (i + 1, L, sI a :: st, h) r) : nRn sc d rt cs (i, L, sJ a :: st, h) r := by
  refine sStep he (by unfold nCl; rw [ho]; intro q; cases q) (fun call => mStep_B2 ?_) hr
  unfold mB2
  rw [ho]
  dsimp only
  rw [Int64.toInt32_ofInt]
end LOT
noncomputable def nLot (x : Nat) : Nat := 48271 * x % 2147483647
theorem nLot_lt (x : Nat) : nLot x < 2147483647 := Nat.mod_lt _ (by decide)
section LOTX
variable {sc : List Int32} {d : Nat} {h g h1 g1 : mH}
theorem fLotB {x p a b D U : Nat} (hh : aHp h) (hp : hI h 3 3 = (p : Int)) (p0 : 0 < p) (hx : x < 2147483647) (ea : x % p = a) (eb : x / 64 % p = b) (hD : hI h 3 5 = (D : Int)) (hD4 : D < 40) (hU : hI h 3 4 = (U : Int)) (h8 : x / 8 % 4 = 0) (hm : nEv sc (d + 6) 64 [.ref 3, sI (a : Int), sI (b : Int)] h (some (sI 1), h)) : ∃ g, nEv sc (d + 7) 109 [.ref 3, sI (x : Int)] h (none, g) ∧ aHp g ∧ ∀ p m, aSlot g p m = if p = 3 ∧ m = 5 then some (sI ((D : Int) + 1)) else if p = 6 ∧ m = D then some (sI ((64 * 2 + 8 * a + b : Nat) : Int)) else if p = 3 ∧ m = 6 then some (.long (hJ h 3 6 ||| pBt a b)) else aSlot h p m := by
  have gp := hI_rg hh xw_p
  have la : a < p := by rw [← ea]; exact Nat.mod_lt _ p0
  have lb : b < p := by rw [← eb]; exact Nat.mod_lt _ p0
  have x64 : x / 64 ≤ x := Nat.div_le_self _ _
  have x8 : x / 8 ≤ x := Nat.div_le_self _ _
  obtain ⟨g1, r1, r2, r3⟩ := fBind (sc := sc) (d := d + 3) (a := a) (b := b) (D := D) hh (by omega) (by omega) hD hD4
  refine ⟨g1, nEv_of (t := mMe109) rfl ?_, r2, r3⟩
  show nRn sc (d + 6) (mMT mMe109) (mMC mMe109) (0, [some (.ref 3), some (sI ((x : Int))), none, none], [], h) _
  refine sP 1 (g1 := (1, [some (.ref 3), some (sI ((x : Int))), none, none], [.ref 3], h)) rfl ?_
  refine s_get (a := 3) (j := 3) hh rfl ⟨_, rfl⟩ rfl rfl rfl (v := sI ((p : Int))) (by have q := hI_ok hh xw_p; rw [hp] at q; exact q) ?_
  refine s_ifc (q := .ne) (a := (p : Int)) rfl ⟨_, rfl⟩ rfl (by unfold sR aMi aMa; omega) (fun hc1 => ?_) (fun hc1 => ?_)
  · have hc1 : (((p : Int)) : Int) ≠ 0 := hc1
    refine sP 2 (g1 := (6, [some (.ref 3), some (sI ((x : Int))), none, none], [.ref 3, sI ((x : Int))], h)) rfl ?_
    refine s_get (a := 3) (j := 3) hh rfl ⟨_, rfl⟩ rfl rfl rfl (v := sI ((p : Int))) (by have q := hI_ok hh xw_p; rw [hp] at q; exact q) ?_
    refine s_remN (a := x) (b := p) rfl rfl (by omega) (by omega) (by omega) ?_
    refine sP 3 (g1 := (11, [some (.ref 3), some (sI ((x : Int))), some (sI (((x % p : Nat) : Int))), none], [sI 64, sI ((x : Int))], h)) rfl ?_
    refine s_divN (a := x) (b := 64) rfl rfl (by omega) (by omega) (by omega) ?_
    refine sP 1 (g1 := (13, [some (.ref 3), some (sI ((x : Int))), some (sI (((x % p : Nat) : Int))), none], [.ref 3, sI (((x / 64 : Nat) : Int))], h)) rfl ?_
    refine s_get (a := 3) (j := 3) hh rfl ⟨_, rfl⟩ rfl rfl rfl (v := sI ((p : Int))) (by have q := hI_ok hh xw_p; rw [hp] at q; exact q) ?_
    refine s_remN (a := (x / 64)) (b := p) rfl rfl (by omega) (by omega) (by omega) ?_
    refine sP 1 (g1 := (16, [some (.ref 3), some (sI ((x : Int))), some (sI (((x % p : Nat) : Int))), some (sI ((((x / 64) % p : Nat) : Int)))], [], h)) rfl ?_
    rw [ea, eb]
    refine sP 2 (g1 := (18, [some (.ref 3), some (sI ((x : Int))), some (sI ((a : Int))), some (sI ((b : Int)))], [sI 8, sI ((x : Int))], h)) rfl ?_
    refine s_divN (a := x) (b := 8) rfl rfl (by omega) (by omega) (by omega) ?_
    refine sP 1 (g1 := (20, [some (.ref 3), some (sI ((x : Int))), some (sI ((a : Int))), some (sI ((b : Int)))], [sI 4, sI (((x / 8 : Nat) : Int))], h)) rfl ?_
    refine s_remN (a := (x / 8)) (b := 4) rfl rfl (by omega) (by omega) (by omega) ?_
    refine s_ifc (q := .ne) (a := (((x / 8) % 4 : Nat) : Int)) rfl ⟨_, rfl⟩ rfl (by unfold sR aMi aMa; omega) (fun hc2 => ?_) (fun hc2 => ?_)
    · have hc2 : (((((x / 8) % 4 : Nat) : Int)) : Int) ≠ 0 := hc2
      omega
    · have hc2 : ¬ ((((((x / 8) % 4 : Nat) : Int)) : Int) ≠ 0) := hc2
      refine sP 3 (g1 := (25, [some (.ref 3), some (sI ((x : Int))), some (sI ((a : Int))), some (sI ((b : Int)))], [sI ((b : Int)), sI ((a : Int)), .ref 3], h)) rfl ?_
      refine s_call (k := 64) (args := [.ref 3, sI ((a : Int)), sI ((b : Int))]) (st := []) (v := some (sI 1)) (h1 := h) rfl ⟨rfl, rfl⟩ rfl rfl rfl rfl (sRcv hh (a := 3) rfl rfl) rfl hm ?_
      refine s_ifc (q := .eq) (a := 1) rfl ⟨_, rfl⟩ rfl (by unfold sR aMi aMa; omega) (fun hc3 => ?_) (fun hc3 => ?_)
      · have hc3 : (1 : Int) = 0 := hc3
        omega
      · have hc3 : ¬ ((1 : Int) = 0) := hc3
        refine sP 3 (g1 := (30, [some (.ref 3), some (sI ((x : Int))), some (sI ((a : Int))), some (sI ((b : Int)))], [sI ((b : Int)), sI ((a : Int)), .ref 3], h)) rfl ?_
        refine s_call (k := 68) (args := [.ref 3, sI ((a : Int)), sI ((b : Int))]) (st := []) (v := none) (h1 := g1) rfl ⟨rfl, rfl⟩ rfl rfl rfl rfl (sRcv hh (a := 3) rfl rfl) rfl r1 ?_
        refine sP 1 (g1 := (35, [some (.ref 3), some (sI ((x : Int))), some (sI ((a : Int))), some (sI ((b : Int)))], [], g1)) rfl ?_
        exact s_ret rfl rfl
  · have hc1 : ¬ ((((p : Int)) : Int) ≠ 0) := hc1
    omega
theorem fLotN {x p a b D U : Nat} (hh : aHp h) (hp : hI h 3 3 = (p : Int)) (p0 : 0 < p) (hx : x < 2147483647) (ea : x % p = a) (eb : x / 64 % p = b) (hD : hI h 3 5 = (D : Int)) (hD4 : D < 40) (hU : hI h 3 4 = (U : Int)) (h8 : x / 8 % 4 = 0) (hm : nEv sc (d + 6) 64 [.ref 3, sI (a : Int), sI (b : Int)] h (some (sI 0), h)) : ∃ g, nEv sc (d + 7) 109 [.ref 3, sI (x : Int)] h (none, g) ∧ aHp g ∧ ∀ p m, aSlot g p m = if p = 3 ∧ m = 5 then some (sI ((D : Int) + 1)) else if p = 6 ∧ m = D then some (sI ((64 * 0 + 8 * a + a : Nat) : Int)) else if p = 3 ∧ m = 4 then some (sI ((bxo U a : Nat) : Int)) else aSlot h p m := by
  have gp := hI_rg hh xw_p
  have la : a < p := by rw [← ea]; exact Nat.mod_lt _ p0
  have lb : b < p := by rw [← eb]; exact Nat.mod_lt _ p0
  have x64 : x / 64 ≤ x := Nat.div_le_self _ _
  have x8 : x / 8 ≤ x := Nat.div_le_self _ _
  obtain ⟨g1, r1, r2, r3⟩ := fMove (sc := sc) (d := d + 4) (a := a) (U := U) (D := D) hh (by omega) hU hD hD4
  refine ⟨g1, nEv_of (t := mMe109) rfl ?_, r2, r3⟩
  show nRn sc (d + 6) (mMT mMe109) (mMC mMe109) (0, [some (.ref 3), some (sI ((x : Int))), none, none], [], h) _
  refine sP 1 (g1 := (1, [some (.ref 3), some (sI ((x : Int))), none, none], [.ref 3], h)) rfl ?_
  refine s_get (a := 3) (j := 3) hh rfl ⟨_, rfl⟩ rfl rfl rfl (v := sI ((p : Int))) (by have q := hI_ok hh xw_p; rw [hp] at q; exact q) ?_
  refine s_ifc (q := .ne) (a := (p : Int)) rfl ⟨_, rfl⟩ rfl (by unfold sR aMi aMa; omega) (fun hc1 => ?_) (fun hc1 => ?_)
  · have hc1 : (((p : Int)) : Int) ≠ 0 := hc1
    refine sP 2 (g1 := (6, [some (.ref 3), some (sI ((x : Int))), none, none], [.ref 3, sI ((x : Int))], h)) rfl ?_
    refine s_get (a := 3) (j := 3) hh rfl ⟨_, rfl⟩ rfl rfl rfl (v := sI ((p : Int))) (by have q := hI_ok hh xw_p; rw [hp] at q; exact q) ?_
    refine s_remN (a := x) (b := p) rfl rfl (by omega) (by omega) (by omega) ?_
    refine sP 3 (g1 := (11, [some (.ref 3), some (sI ((x : Int))), some (sI (((x % p : Nat) : Int))), none], [sI 64, sI ((x : Int))], h)) rfl ?_
    refine s_divN (a := x) (b := 64) rfl rfl (by omega) (by omega) (by omega) ?_
    refine sP 1 (g1 := (13, [some (.ref 3), some (sI ((x : Int))), some (sI (((x % p : Nat) : Int))), none], [.ref 3, sI (((x / 64 : Nat) : Int))], h)) rfl ?_
    refine s_get (a := 3) (j := 3) hh rfl ⟨_, rfl⟩ rfl rfl rfl (v := sI ((p : Int))) (by have q := hI_ok hh xw_p; rw [hp] at q; exact q) ?_
    refine s_remN (a := (x / 64)) (b := p) rfl rfl (by omega) (by omega) (by omega) ?_
    refine sP 1 (g1 := (16, [some (.ref 3), some (sI ((x : Int))), some (sI (((x % p : Nat) : Int))), some (sI ((((x / 64) % p : Nat) : Int)))], [], h)) rfl ?_
    rw [ea, eb]
    refine sP 2 (g1 := (18, [some (.ref 3), some (sI ((x : Int))), some (sI ((a : Int))), some (sI ((b : Int)))], [sI 8, sI ((x : Int))], h)) rfl ?_
    refine s_divN (a := x) (b := 8) rfl rfl (by omega) (by omega) (by omega) ?_
    refine sP 1 (g1 := (20, [some (.ref 3), some (sI ((x : Int))), some (sI ((a : Int))), some (sI ((b : Int)))], [sI 4, sI (((x / 8 : Nat) : Int))], h)) rfl ?_
    refine s_remN (a := (x / 8)) (b := 4) rfl rfl (by omega) (by omega) (by omega) ?_
    refine s_ifc (q := .ne) (a := (((x / 8) % 4 : Nat) : Int)) rfl ⟨_, rfl⟩ rfl (by unfold sR aMi aMa; omega) (fun hc2 => ?_) (fun hc2 => ?_)
    · have hc2 : (((((x / 8) % 4 : Nat) : Int)) : Int) ≠ 0 := hc2
      omega
    · have hc2 : ¬ ((((((x / 8) % 4 : Nat) : Int)) : Int) ≠ 0) := hc2
      refine sP 3 (g1 := (25, [some (.ref 3), some (sI ((x : Int))), some (sI ((a : Int))), some (sI ((b : Int)))], [sI ((b : Int)), sI ((a : Int)), .ref 3], h)) rfl ?_
      refine s_call (k := 64) (args := [.ref 3, sI ((a : Int)), sI ((b : Int))]) (st := []) (v := some (sI 0)) (h1 := h) rfl ⟨rfl, rfl⟩ rfl rfl rfl rfl (sRcv hh (a := 3) rfl rfl) rfl hm ?_
      refine s_ifc (q := .eq) (a := 0) rfl ⟨_, rfl⟩ rfl (by unfold sR aMi aMa; omega) (fun hc3 => ?_) (fun hc3 => ?_)
      · have hc3 : (0 : Int) = 0 := hc3
        refine sP 2 (g1 := (34, [some (.ref 3), some (sI ((x : Int))), some (sI ((a : Int))), some (sI ((b : Int)))], [sI ((a : Int)), .ref 3], h)) rfl ?_
        refine s_call (k := 56) (args := [.ref 3, sI ((a : Int))]) (st := []) (v := none) (h1 := g1) rfl ⟨rfl, rfl⟩ rfl rfl rfl rfl (sRcv hh (a := 3) rfl rfl) rfl r1 ?_
        exact s_ret rfl rfl
      · have hc3 : ¬ ((0 : Int) = 0) := hc3
        omega
  · have hc1 : ¬ ((((p : Int)) : Int) ≠ 0) := hc1
    omega
theorem fLotM {x p a b D U : Nat} (hh : aHp h) (hp : hI h 3 3 = (p : Int)) (p0 : 0 < p) (hx : x < 2147483647) (ea : x % p = a) (eb : x / 64 % p = b) (hD : hI h 3 5 = (D : Int)) (hD4 : D < 40) (hU : hI h 3 4 = (U : Int)) (h8 : x / 8 % 4 ≠ 0) : ∃ g, nEv sc (d + 7) 109 [.ref 3, sI (x : Int)] h (none, g) ∧ aHp g ∧ ∀ p m, aSlot g p m = if p = 3 ∧ m = 5 then some (sI ((D : Int) + 1)) else if p = 6 ∧ m = D then some (sI ((64 * 0 + 8 * a + a : Nat) : Int)) else if p = 3 ∧ m = 4 then some (sI ((bxo U a : Nat) : Int)) else aSlot h p m := by
  have gp := hI_rg hh xw_p
  have la : a < p := by rw [← ea]; exact Nat.mod_lt _ p0
  have lb : b < p := by rw [← eb]; exact Nat.mod_lt _ p0
  have x64 : x / 64 ≤ x := Nat.div_le_self _ _
  have x8 : x / 8 ≤ x := Nat.div_le_self _ _
  obtain ⟨g1, r1, r2, r3⟩ := fMove (sc := sc) (d := d + 4) (a := a) (U := U) (D := D) hh (by omega) hU hD hD4
  refine ⟨g1, nEv_of (t := mMe109) rfl ?_, r2, r3⟩
  show nRn sc (d + 6) (mMT mMe109) (mMC mMe109) (0, [some (.ref 3), some (sI ((x : Int))), none, none], [], h) _
  refine sP 1 (g1 := (1, [some (.ref 3), some (sI ((x : Int))), none, none], [.ref 3], h)) rfl ?_
  refine s_get (a := 3) (j := 3) hh rfl ⟨_, rfl⟩ rfl rfl rfl (v := sI ((p : Int))) (by have q := hI_ok hh xw_p; rw [hp] at q; exact q) ?_
  refine s_ifc (q := .ne) (a := (p : Int)) rfl ⟨_, rfl⟩ rfl (by unfold sR aMi aMa; omega) (fun hc1 => ?_) (fun hc1 => ?_)
  · have hc1 : (((p : Int)) : Int) ≠ 0 := hc1
    refine sP 2 (g1 := (6, [some (.ref 3), some (sI ((x : Int))), none, none], [.ref 3, sI ((x : Int))], h)) rfl ?_
    refine s_get (a := 3) (j := 3) hh rfl ⟨_, rfl⟩ rfl rfl rfl (v := sI ((p : Int))) (by have q := hI_ok hh xw_p; rw [hp] at q; exact q) ?_
    refine s_remN (a := x) (b := p) rfl rfl (by omega) (by omega) (by omega) ?_
    refine sP 3 (g1 := (11, [some (.ref 3), some (sI ((x : Int))), some (sI (((x % p : Nat) : Int))), none], [sI 64, sI ((x : Int))], h)) rfl ?_
    refine s_divN (a := x) (b := 64) rfl rfl (by omega) (by omega) (by omega) ?_
    refine sP 1 (g1 := (13, [some (.ref 3), some (sI ((x : Int))), some (sI (((x % p : Nat) : Int))), none], [.ref 3, sI (((x / 64 : Nat) : Int))], h)) rfl ?_
    refine s_get (a := 3) (j := 3) hh rfl ⟨_, rfl⟩ rfl rfl rfl (v := sI ((p : Int))) (by have q := hI_ok hh xw_p; rw [hp] at q; exact q) ?_
    refine s_remN (a := (x / 64)) (b := p) rfl rfl (by omega) (by omega) (by omega) ?_
    refine sP 1 (g1 := (16, [some (.ref 3), some (sI ((x : Int))), some (sI (((x % p : Nat) : Int))), some (sI ((((x / 64) % p : Nat) : Int)))], [], h)) rfl ?_
    rw [ea, eb]
    refine sP 2 (g1 := (18, [some (.ref 3), some (sI ((x : Int))), some (sI ((a : Int))), some (sI ((b : Int)))], [sI 8, sI ((x : Int))], h)) rfl ?_
    refine s_divN (a := x) (b := 8) rfl rfl (by omega) (by omega) (by omega) ?_
    refine sP 1 (g1 := (20, [some (.ref 3), some (sI ((x : Int))), some (sI ((a : Int))), some (sI ((b : Int)))], [sI 4, sI (((x / 8 : Nat) : Int))], h)) rfl ?_
    refine s_remN (a := (x / 8)) (b := 4) rfl rfl (by omega) (by omega) (by omega) ?_
    refine s_ifc (q := .ne) (a := (((x / 8) % 4 : Nat) : Int)) rfl ⟨_, rfl⟩ rfl (by unfold sR aMi aMa; omega) (fun hc2 => ?_) (fun hc2 => ?_)
    · have hc2 : (((((x / 8) % 4 : Nat) : Int)) : Int) ≠ 0 := hc2
      refine sP 2 (g1 := (34, [some (.ref 3), some (sI ((x : Int))), some (sI ((a : Int))), some (sI ((b : Int)))], [sI ((a : Int)), .ref 3], h)) rfl ?_
      refine s_call (k := 56) (args := [.ref 3, sI ((a : Int))]) (st := []) (v := none) (h1 := g1) rfl ⟨rfl, rfl⟩ rfl rfl rfl rfl (sRcv hh (a := 3) rfl rfl) rfl r1 ?_
      exact s_ret rfl rfl
    · have hc2 : ¬ ((((((x / 8) % 4 : Nat) : Int)) : Int) ≠ 0) := hc2
      omega
  · have hc1 : ¬ ((((p : Int)) : Int) ≠ 0) := hc1
    omega
/-- what one lot does in both -/
theorem wLot1 {x : Nat} (hh : aHp h) (hx : x < 2147483647) (hp : 0 < hI h 3 3) (hD4 : hI h 3 5 < 40) : ∃ h1, nEv sc (d + 7) 109 [.ref 3, sI (x : Int)] h (none, h1) ∧ aHp h1 ∧ (∀ p m, ¬ (3 ≤ p ∧ p ≤ 6) → aSlot h1 p m = aSlot h p m) ∧ hI h1 3 3 = hI h 3 3 ∧ hI h1 3 5 = hI h 3 5 + 1 ∧ ∀ g, aHp g → nR h g → ∃ g1, aHp g1 ∧ (∀ p m, p ≠ 58 → aSlot g1 p m = aSlot g p m) ∧ nR h1 g1 ∧ ((x / 8 % 4 = 0 ∧ nEv sc (d + 7) 170 [.ref 53, sI ((x % (hI g 58 0).toNat : Nat) : Int), sI ((x / 64 % (hI g 58 0).toNat : Nat) : Int)] g (some (sI 1), g) ∧ nEv sc (d + 7) 173 [.ref 53, sI ((x % (hI g 58 0).toNat : Nat) : Int), sI ((x / 64 % (hI g 58 0).toNat : Nat) : Int)] g (none, g1)) ∨ (x / 8 % 4 = 0 ∧ nEv sc (d + 7) 170 [.ref 53, sI ((x % (hI g 58 0).toNat : Nat) : Int), sI ((x / 64 % (hI g 58 0).toNat : Nat) : Int)] g (some (sI 0), g) ∧ nEv sc (d + 7) 164 [.ref 53, sI ((x % (hI g 58 0).toNat : Nat) : Int)] g (none, g1)) ∨ (x / 8 % 4 ≠ 0 ∧ nEv sc (d + 7) 164 [.ref 53, sI ((x % (hI g 58 0).toNat : Nat) : Int)] g (none, g1))) := by
  have gp := hI_rg hh xw_p
  have gu := hI_rg hh xw_u
  have gd := hI_rg hh xw_d
  obtain ⟨p, ep⟩ := iN gp.1
  obtain ⟨U, eU⟩ := iN gu.1
  obtain ⟨D, eD⟩ := iN gd.1
  have p0 : 0 < p := by omega
  obtain ⟨a, ea⟩ : ∃ a, x % p = a := ⟨_, rfl⟩
  obtain ⟨b, eb⟩ : ∃ b, x / 64 % p = b := ⟨_, rfl⟩
  have la : a < p := by rw [← ea]; exact Nat.mod_lt _ p0
  have lb : b < p := by rw [← eb]; exact Nat.mod_lt _ p0
  have pg : ∀ {g : mH}, nR h g → (hI g 58 0).toNat = p := fun hr => by have := hr.1; omega
  have mv : ∀ {h1 : mH}, (∀ p m, aSlot h1 p m = if p = 3 ∧ m = 5 then some (sI ((D : Int) + 1)) else if p = 6 ∧ m = D then some (sI ((64 * 0 + 8 * a + a : Nat) : Int)) else if p = 3 ∧ m = 4 then some (sI ((bxo U a : Nat) : Int)) else aSlot h p m) → nEv sc (d + 7) 109 [.ref 3, sI (x : Int)] h (none, h1) → aHp h1 → (∀ g, nR h g → aHp g → ∀ g1, nEv sc (d + 7) 164 [.ref 53, sI (a : Int)] g (none, g1) → aHp g1 → (∀ p m, aSlot g1 p m = if p = 58 ∧ m = 43 then some (sI ((bxo U a : Nat) : Int)) else if p = 58 ∧ m = 80 then some (sI ((D : Int) + 1)) else if p = 58 ∧ m = 81 + (3 * D + 2) then some (sI ((0 : Nat) : Int)) else if p = 58 ∧ m = 81 + (3 * D + 1) then some (sI (a : Int)) else if p = 58 ∧ m = 81 + 3 * D then some (sI ((0 : Nat) : Int)) else aSlot g p m) → ((x / 8 % 4 = 0 ∧ nEv sc (d + 7) 170 [.ref 53, sI (a : Int), sI (b : Int)] g (some (sI 1), g) ∧ nEv sc (d + 7) 173 [.ref 53, sI (a : Int), sI (b : Int)] g (none, g1)) ∨ (x / 8 % 4 = 0 ∧ nEv sc (d + 7) 170 [.ref 53, sI (a : Int), sI (b : Int)] g (some (sI 0), g) ∧ nEv sc (d + 7) 164 [.ref 53, sI (a : Int)] g (none, g1)) ∨ (x / 8 % 4 ≠ 0 ∧ nEv sc (d + 7) 164 [.ref 53, sI (a : Int)] g (none, g1)))) → ∃ h1, nEv sc (d + 7) 109 [.ref 3, sI (x : Int)] h (none, h1) ∧ aHp h1 ∧ (∀ p m, ¬ (3 ≤ p ∧ p ≤ 6) → aSlot h1 p m = aSlot h p m) ∧ hI h1 3 3 = hI h 3 3 ∧ hI h1 3 5 = hI h 3 5 + 1 ∧ ∀ g, aHp g → nR h g → ∃ g1, aHp g1 ∧ (∀ p m, p ≠ 58 → aSlot g1 p m = aSlot g p m) ∧ nR h1 g1 ∧ ((x / 8 % 4 = 0 ∧ nEv sc (d + 7) 170 [.ref 53, sI ((x % (hI g 58 0).toNat : Nat) : Int), sI ((x / 64 % (hI g 58 0).toNat : Nat) : Int)] g (some (sI 1), g) ∧ nEv sc (d + 7) 173 [.ref 53, sI ((x % (hI g 58 0).toNat : Nat) : Int), sI ((x / 64 % (hI g 58 0).toNat : Nat) : Int)] g (none, g1)) ∨ (x / 8 % 4 = 0 ∧ nEv sc (d + 7) 170 [.ref 53, sI ((x % (hI g 58 0).toNat : Nat) : Int), sI ((x / 64 % (hI g 58 0).toNat : Nat) : Int)] g (some (sI 0), g) ∧ nEv sc (d + 7) 164 [.ref 53, sI ((x % (hI g 58 0).toNat : Nat) : Int)] g (none, g1)) ∨ (x / 8 % 4 ≠ 0 ∧ nEv sc (d + 7) 164 [.ref 53, sI ((x % (hI g 58 0).toNat : Nat) : Int)] g (none, g1))) := by
    intro h1 r3 r1 r2 hk
    refine ⟨h1, r1, r2, fun p m w => by rw [r3, if_neg (by omega), if_neg (by omega), if_neg (by omega)], hI_cg (by rw [r3, if_neg (by omega), if_neg (by omega), if_neg (by omega)]), by rw [eD]; exact hI_si (by rw [r3, if_pos (by omega)]) (by unfold sR aMi aMa; omega), fun g hg hr => ?_⟩
    obtain ⟨b1, b2, b3, b4, b5, b6⟩ := id hr
    obtain ⟨g1, y1, y2, y3⟩ := fSteps0 (sc := sc) (d := d + 5) (a := a) (U := U) (D := D) hg (by omega) (by omega) (by omega) (by omega)
    refine ⟨g1, y2, fun p m w => by rw [y3, if_neg (by omega), if_neg (by omega), if_neg (by omega), if_neg (by omega), if_neg (by omega)], nR_move hr (by omega) eU (by omega) (by omega) eD (by omega) r3 y3, ?_⟩
    rw [pg hr, ea, eb]
    exact hk g hr hg g1 y1 y2 y3
  by_cases c8 : x / 8 % 4 = 0
  · obtain ⟨v, hv, m1, -⟩ : ∃ v : Int, (v = 0 ∨ v = 1 ∧ a ≠ b) ∧ nEv sc (d + 6) 64 [.ref 3, sI (a : Int), sI (b : Int)] h (some (sI v), h) ∧ True := by
      obtain ⟨ka, eka⟩ := iN (hI_rg hh (xw_k (show a < 6 by omega))).1
      obtain ⟨kb, ekb⟩ := iN (hI_rg hh (xw_k (show b < 6 by omega))).1
      have x1 := fMayX (sc := sc) (d := d) (n := p) (U := U) hh ep (show a < 6 by omega) (show b < 6 by omega) eU eka ekb
      cases hv : pMay a b (tb (hJ h 3 6) (pI a b)) (pAg (pSeem (hI h 5) p ka a U) (pSeem (hI h 5) p kb b U) (bt U a) (bt U b)) with
      | true =>
        rw [hv, if_pos rfl] at x1
        exact ⟨1, Or.inr ⟨rfl, (pMay_iff.mp hv).1⟩, x1, trivial⟩
      | false =>
        rw [hv, if_neg (by decide)] at x1
        exact ⟨0, Or.inl rfl, x1, trivial⟩
    have mm : ∀ g, aHp g → nR h g → nEv sc (d + 7) 170 [.ref 53, sI (a : Int), sI (b : Int)] g (some (sI v), g) := fun g hg hr => by
      obtain ⟨w, hw, n1, n2⟩ := wMay (sc := sc) hh hg hr (a := a) (b := b) (by omega) (by omega)
      have e := nEv_det m1 (n1 d)
      have ew : v = w := by
        rcases hv with rfl | ⟨rfl, -⟩ <;> rcases hw with rfl | ⟨rfl, -⟩
        · rfl
        · exact absurd (Value.int.inj (Option.some.inj (congrArg Prod.fst e : (some (sI 0) : Option Value) = some (sI 1)))) (by decide)
        · exact absurd (Value.int.inj (Option.some.inj (congrArg Prod.fst e : (some (sI 1) : Option Value) = some (sI 0)))) (by decide)
        · rfl
      rw [ew]
      exact n2 (d + 1)
    rcases hv with rfl | ⟨rfl, hab⟩
    · obtain ⟨h1, r1, r2, r3⟩ := fLotN (sc := sc) (d := d) hh ep p0 hx ea eb eD (by omega) eU c8 m1
      exact mv r3 r1 r2 (fun g hr hg g1 y1 _ _ => Or.inr (Or.inl ⟨c8, mm g hg hr, y1⟩))
    · obtain ⟨h1, r1, r2, r3⟩ := fLotB (sc := sc) (d := d) (U := U) hh ep p0 hx ea eb eD (by omega) eU c8 m1
      refine ⟨h1, r1, r2, fun p m w => by rw [r3, if_neg (by omega), if_neg (by omega), if_neg (by omega)], hI_cg (by rw [r3, if_neg (by omega), if_neg (by omega), if_neg (by omega)]), by rw [eD]; exact hI_si (by rw [r3, if_pos (by omega)]) (by unfold sR aMi aMa; omega), fun g hg hr => ?_⟩
      obtain ⟨b1, b2, b3, b4, b5, b6⟩ := id hr
      obtain ⟨g1, y1, y2, y3⟩ := fTreats (sc := sc) (d := d + 5) (a := a) (b := b) (D := D) hg (by omega) (by omega) (by omega) (by omega)
      refine ⟨g1, y2, fun p m w => by rw [y3, if_neg (by omega), if_neg (by omega), if_neg (by omega), if_neg (by omega), if_neg (by omega), if_neg (by omega)], nR_bind hr (by omega) (by omega) hab (by omega) eD (by omega) r3 y3, ?_⟩
      rw [pg hr, ea, eb]
      exact Or.inl ⟨c8, mm g hg hr, y1⟩
  · obtain ⟨h1, r1, r2, r3⟩ := fLotM (sc := sc) (d := d) hh ep p0 hx ea eb eD (by omega) eU c8
    exact mv r3 r1 r2 (fun g hr hg g1 y1 _ _ => Or.inr (Or.inr ⟨c8, y1⟩))
/-- both draw, lot by lot -/
theorem wLots {n : Nat} {S SS : Int} : ∀ (k i x : Nat) (h : mH), i + k = n → n ≤ 20 → x < 2147483647 → aHp h → 0 < hI h 3 3 → hI h 3 5 + k ≤ 40 → ∃ h1, nRn sc (d + 7) (mMT mMe108) (mMC mMe108) (36, [some (.ref 0), some (sI (n : Int)), some (sI S), some (sJ (x : Int)), none, some (sI (i : Int))], [], h) (some (.int (lbc (hJ h1 3 6))), h1) ∧ aHp h1 ∧ (∀ p m, ¬ (3 ≤ p ∧ p ≤ 6) → aSlot h1 p m = aSlot h p m) ∧ ∀ (g : mH) (X6 X7 : Option Value), aHp g → nR h g → ∃ g1, nRn sc (d + 7) (mMT mMe212) (mMC mMe212) (34, [some (.ref 53), some (sI (n : Int)), some (sI SS), some (sJ (x : Int)), none, some (sI (i : Int)), X6, X7], [], g) (some (sI (yA (fun j => hI g1 58 (44 + j)) 6 / 2)), g1) ∧ aHp g1 ∧ (∀ p m, p ≠ 58 → aSlot g1 p m = aSlot g p m) ∧ nR h1 g1 := by
  intro k
  induction k with
  | zero =>
    intro i x h hi hn hx hh hp hD
    have hin : i = n := by omega
    subst hin
    refine ⟨h, ?_, hh, fun p m _ => rfl, fun g X6 X7 hg hr => ⟨g, ?_, hg, fun p m _ => rfl, hr⟩⟩
    · refine sP 2 (g1 := (38, [some (.ref 0), some (sI ((i : Int))), some (sI S), some (sJ ((x : Int))), none, some (sI ((i : Int)))], [sI ((i : Int)), sI ((i : Int))], h)) rfl ?_
      refine s_icmp (q := .ge) (a := (i : Int)) (b := (i : Int)) rfl ⟨_, rfl⟩ rfl (by unfold sR aMi aMa; omega) (by unfold sR aMi aMa; omega) (fun hc1 => ?_) (fun hc1 => ?_)
      · have hc1 : (((i : Int)) : Int) ≤ ((i : Int)) := hc1
        refine sP 1 (g1 := (53, [some (.ref 0), some (sI ((i : Int))), some (sI S), some (sJ ((x : Int))), none, some (sI ((i : Int)))], [.ref 0], h)) rfl ?_
        refine s_get (a := 0) (j := 2) hh rfl ⟨_, rfl⟩ rfl rfl rfl (v := .ref 3) (hR_ok hh (by decide +kernel)) ?_
        refine s_get (a := 3) (j := 6) hh rfl ⟨_, rfl⟩ rfl rfl rfl (v := .long (hJ h 3 6)) (hJ_ok hh xw_t) ?_
        refine s_call (k := 69) (args := [.long (hJ h 3 6)]) (st := []) (v := some (.int (lbc (hJ h 3 6)))) (h1 := h) rfl ⟨rfl, rfl⟩ rfl rfl rfl rfl rfl rfl lbc_ok ?_
        exact s_retz rfl rfl rfl rfl
      · have hc1 : ¬ ((((i : Int)) : Int) ≤ ((i : Int))) := hc1
        omega
    · refine sP 2 (g1 := (36, [some (.ref 53), some (sI ((i : Int))), some (sI SS), some (sJ ((x : Int))), none, some (sI ((i : Int))), X6, X7], [sI ((i : Int)), sI ((i : Int))], g)) rfl ?_
      refine s_icmp (q := .ge) (a := (i : Int)) (b := (i : Int)) rfl ⟨_, rfl⟩ rfl (by unfold sR aMi aMa; omega) (by unfold sR aMi aMa; omega) (fun hc1 => ?_) (fun hc1 => ?_)
      · have hc1 : (((i : Int)) : Int) ≤ ((i : Int)) := hc1
        refine sP 1 (g1 := (87, [some (.ref 53), some (sI ((i : Int))), some (sI SS), some (sJ ((x : Int))), none, some (sI ((i : Int))), X6, X7], [.ref 53], g)) rfl ?_
        refine s_call (k := 175) (args := [.ref 53]) (st := []) (v := some (sI (yA (fun j => hI g 58 (44 + j)) 6 / 2))) (h1 := g) rfl ⟨rfl, rfl⟩ rfl rfl rfl rfl (sRcv hg (a := 53) rfl rfl) rfl (fTrs hg) ?_
        exact s_reti rfl rfl (Or.inl rfl) rfl rfl
      · have hc1 : ¬ ((((i : Int)) : Int) ≤ ((i : Int))) := hc1
        omega
  | succ k ih =>
    intro i x h hi hn hx hh hp hD
    have hl := nLot_lt x
    obtain ⟨h2, r1, r2, r3, r4, r5, r6⟩ := wLot1 (sc := sc) (d := d) (x := nLot x) hh hl hp (by omega)
    obtain ⟨h3, i1, i2, i3, i4⟩ := ih (i + 1) (nLot x) h2 (by omega) hn hl r2 (by omega) (by omega)
    refine ⟨h3, ?_, i2, fun p m w => by rw [i3 p m w, r3 p m w], fun g X6 X7 hg hr => ?_⟩
    · refine sP 2 (g1 := (38, [some (.ref 0), some (sI ((n : Int))), some (sI S), some (sJ ((x : Int))), none, some (sI ((i : Int)))], [sI ((n : Int)), sI ((i : Int))], h)) rfl ?_
      refine s_icmp (q := .ge) (a := (i : Int)) (b := (n : Int)) rfl ⟨_, rfl⟩ rfl (by unfold sR aMi aMa; omega) (by unfold sR aMi aMa; omega) (fun hc1 => ?_) (fun hc1 => ?_)
      · have hc1 : (((n : Int)) : Int) ≤ ((i : Int)) := hc1
        omega
      · have hc1 : ¬ ((((n : Int)) : Int) ≤ ((i : Int))) := hc1
        refine sP 2 (g1 := (41, [some (.ref 0), some (sI ((n : Int))), some (sI S), some (sJ ((x : Int))), none, some (sI ((i : Int)))], [sJ ((x : Int)), sJ 48271], h)) rfl ?_
        refine s_lmul (a := 48271) (b := (x : Int)) rfl rfl ?_
        rw [show (48271 : Int) * (x : Int) = ((48271 * x : Nat) : Int) by omega]
        refine sP 1 (g1 := (43, [some (.ref 0), some (sI ((n : Int))), some (sI S), some (sJ ((x : Int))), none, some (sI ((i : Int)))], [sJ 2147483647, sJ (((48271 * x : Nat) : Int))], h)) rfl ?_
        refine s_lremN (a := 48271 * x) (b := 2147483647) rfl rfl (by omega) (by omega) (by omega) ?_
        rw [show ((48271 * x % 2147483647 : Nat) : Int) = ((nLot x : Nat) : Int) from rfl]
        refine sP 2 (g1 := (46, [some (.ref 0), some (sI ((n : Int))), some (sI S), some (sJ (((nLot x : Nat) : Int))), none, some (sI ((i : Int)))], [.ref 0], h)) rfl ?_
        refine s_get (a := 0) (j := 2) hh rfl ⟨_, rfl⟩ rfl rfl rfl (v := .ref 3) (hR_ok hh (by decide +kernel)) ?_
        refine sP 1 (g1 := (48, [some (.ref 0), some (sI ((n : Int))), some (sI S), some (sJ (((nLot x : Nat) : Int))), none, some (sI ((i : Int)))], [sJ (((nLot x : Nat) : Int)), .ref 3], h)) rfl ?_
        refine s_l2i (a := ((nLot x : Nat) : Int)) rfl rfl ?_
        refine s_call (k := 109) (args := [.ref 3, sI (((nLot x : Nat) : Int))]) (st := []) (v := none) (h1 := h2) rfl ⟨rfl, rfl⟩ rfl rfl rfl rfl (sRcv hh (a := 3) rfl rfl) rfl r1 ?_
        refine s_inc (a := (i : Int)) (n := 1) (k := 5) rfl rfl rfl ?_
        refine sP 1 (g1 := (36, [some (.ref 0), some (sI ((n : Int))), some (sI S), some (sJ (((nLot x : Nat) : Int))), none, some (sI (((i : Int)) + 1))], [], h2)) rfl ?_
        rw [show ((i : Int) + 1) = ((i + 1 : Nat) : Int) by omega]
        exact i1
    · obtain ⟨b1, b2, b3, b4, b5, b6⟩ := id hr
      have gpp := hI_rg hh xw_p
      obtain ⟨p, ep⟩ := iN gpp.1
      have ep2 : hI g 58 0 = (p : Int) := by omega
      have p0 : 0 < p := by omega
      have tp : (hI g 58 0).toNat = p := by omega
      have l64 : nLot x / 64 ≤ nLot x := Nat.div_le_self _ _
      have l8 : nLot x / 8 ≤ nLot x := Nat.div_le_self _ _
      obtain ⟨g2, y1, y2, y3, y4⟩ := r6 g hg hr
      rw [tp] at y4
      have j5 := fun X6 X7 => i4 g2 X6 X7 y1 y3
      have lp : ∀ q : Nat, q % p < p := fun q => Nat.mod_lt _ p0
      have lp1 := lp (nLot x)
      have lp2 := lp (nLot x / 64)
      rcases y4 with ⟨c8, m1, t1⟩ | ⟨c8, m1, t1⟩ | ⟨c8, t1⟩
      · obtain ⟨g3, k1, k2, k3, k4⟩ := j5 (some (sI ((nLot x % p : Nat) : Int))) (some (sI ((nLot x / 64 % p : Nat) : Int)))
        refine ⟨g3, ?_, k2, fun p m w => by rw [k3 p m w, y2 p m w], k4⟩
        refine sP 2 (g1 := (36, [some (.ref 53), some (sI ((n : Int))), some (sI SS), some (sJ ((x : Int))), none, some (sI ((i : Int))), X6, X7], [sI ((n : Int)), sI ((i : Int))], g)) rfl ?_
        refine s_icmp (q := .ge) (a := (i : Int)) (b := (n : Int)) rfl ⟨_, rfl⟩ rfl (by unfold sR aMi aMa; omega) (by unfold sR aMi aMa; omega) (fun hc1 => ?_) (fun hc1 => ?_)
        · have hc1 : (((n : Int)) : Int) ≤ ((i : Int)) := hc1
          omega
        · have hc1 : ¬ ((((n : Int)) : Int) ≤ ((i : Int))) := hc1
          refine sP 2 (g1 := (39, [some (.ref 53), some (sI ((n : Int))), some (sI SS), some (sJ ((x : Int))), none, some (sI ((i : Int))), X6, X7], [sJ ((x : Int)), sJ 48271], g)) rfl ?_
          refine s_lmul (a := 48271) (b := (x : Int)) rfl rfl ?_
          rw [show (48271 : Int) * (x : Int) = ((48271 * x : Nat) : Int) by omega]
          refine sP 1 (g1 := (41, [some (.ref 53), some (sI ((n : Int))), some (sI SS), some (sJ ((x : Int))), none, some (sI ((i : Int))), X6, X7], [sJ 2147483647, sJ (((48271 * x : Nat) : Int))], g)) rfl ?_
          refine s_lremN (a := 48271 * x) (b := 2147483647) rfl rfl (by omega) (by omega) (by omega) ?_
          rw [show ((48271 * x % 2147483647 : Nat) : Int) = ((nLot x : Nat) : Int) from rfl]
          refine sP 3 (g1 := (45, [some (.ref 53), some (sI ((n : Int))), some (sI SS), some (sJ (((nLot x : Nat) : Int))), none, some (sI ((i : Int))), X6, X7], [.ref 53, sJ (((nLot x : Nat) : Int))], g)) rfl ?_
          refine s_get (a := 53) (j := 4) hg rfl ⟨_, rfl⟩ rfl rfl rfl (v := .ref 58) (hR_ok hg (by decide +kernel)) ?_
          refine sP 1 (g1 := (47, [some (.ref 53), some (sI ((n : Int))), some (sI SS), some (sJ (((nLot x : Nat) : Int))), none, some (sI ((i : Int))), X6, X7], [sI 0, .ref 58, sJ (((nLot x : Nat) : Int))], g)) rfl ?_
          refine s_iald (a := 58) (n := 201) (j := 0) hg rfl rfl rfl (by omega) (by omega) (by decide) (v := sI ((p : Int))) (by have q := hI_ok hg nw_p; rw [ep2] at q; exact q) ?_
          refine s_i2l (a := (p : Int)) rfl rfl (by unfold sR aMi aMa; omega) ?_
          refine s_lremN (a := nLot x) (b := p) rfl rfl (by omega) (by omega) (by omega) ?_
          refine s_l2i (a := ((nLot x % p : Nat) : Int)) rfl rfl ?_
          refine sP 3 (g1 := (54, [some (.ref 53), some (sI ((n : Int))), some (sI SS), some (sJ (((nLot x : Nat) : Int))), none, some (sI ((i : Int))), some (sI (((nLot x % p : Nat) : Int))), X7], [sJ 64, sJ (((nLot x : Nat) : Int))], g)) rfl ?_
          refine s_ldivN (a := nLot x) (b := 64) rfl rfl (by omega) (by omega) (by omega) ?_
          refine sP 1 (g1 := (56, [some (.ref 53), some (sI ((n : Int))), some (sI SS), some (sJ (((nLot x : Nat) : Int))), none, some (sI ((i : Int))), some (sI (((nLot x % p : Nat) : Int))), X7], [.ref 53, sJ (((nLot x / 64 : Nat) : Int))], g)) rfl ?_
          refine s_get (a := 53) (j := 4) hg rfl ⟨_, rfl⟩ rfl rfl rfl (v := .ref 58) (hR_ok hg (by decide +kernel)) ?_
          refine sP 1 (g1 := (58, [some (.ref 53), some (sI ((n : Int))), some (sI SS), some (sJ (((nLot x : Nat) : Int))), none, some (sI ((i : Int))), some (sI (((nLot x % p : Nat) : Int))), X7], [sI 0, .ref 58, sJ (((nLot x / 64 : Nat) : Int))], g)) rfl ?_
          refine s_iald (a := 58) (n := 201) (j := 0) hg rfl rfl rfl (by omega) (by omega) (by decide) (v := sI ((p : Int))) (by have q := hI_ok hg nw_p; rw [ep2] at q; exact q) ?_
          refine s_i2l (a := (p : Int)) rfl rfl (by unfold sR aMi aMa; omega) ?_
          refine s_lremN (a := (nLot x / 64)) (b := p) rfl rfl (by omega) (by omega) (by omega) ?_
          refine s_l2i (a := (((nLot x / 64) % p : Nat) : Int)) rfl rfl ?_
          refine sP 3 (g1 := (65, [some (.ref 53), some (sI ((n : Int))), some (sI SS), some (sJ (((nLot x : Nat) : Int))), none, some (sI ((i : Int))), some (sI (((nLot x % p : Nat) : Int))), some (sI ((((nLot x / 64) % p : Nat) : Int)))], [sJ 8, sJ (((nLot x : Nat) : Int))], g)) rfl ?_
          refine s_ldivN (a := nLot x) (b := 8) rfl rfl (by omega) (by omega) (by omega) ?_
          refine sP 1 (g1 := (67, [some (.ref 53), some (sI ((n : Int))), some (sI SS), some (sJ (((nLot x : Nat) : Int))), none, some (sI ((i : Int))), some (sI (((nLot x % p : Nat) : Int))), some (sI ((((nLot x / 64) % p : Nat) : Int)))], [sJ 4, sJ (((nLot x / 8 : Nat) : Int))], g)) rfl ?_
          refine s_lremN (a := (nLot x / 8)) (b := 4) rfl rfl (by omega) (by omega) (by omega) ?_
          refine sP 1 (g1 := (69, [some (.ref 53), some (sI ((n : Int))), some (sI SS), some (sJ (((nLot x : Nat) : Int))), none, some (sI ((i : Int))), some (sI (((nLot x % p : Nat) : Int))), some (sI ((((nLot x / 64) % p : Nat) : Int)))], [sJ 0, sJ ((((nLot x / 8) % 4 : Nat) : Int))], g)) rfl ?_
          refine s_lif (q := .ne) (a := (((nLot x / 8) % 4 : Nat) : Int)) (b := 0) rfl rfl rfl ⟨_, rfl⟩ rfl (by unfold sRJ; omega) (by unfold sRJ; omega) (fun hc2 => ?_) (fun hc2 => ?_)
          · have hc2 : (((((nLot x / 8) % 4 : Nat) : Int)) : Int) ≠ 0 := hc2
            omega
          · have hc2 : ¬ ((((((nLot x / 8) % 4 : Nat) : Int)) : Int) ≠ 0) := hc2
            refine sP 3 (g1 := (74, [some (.ref 53), some (sI ((n : Int))), some (sI SS), some (sJ (((nLot x : Nat) : Int))), none, some (sI ((i : Int))), some (sI (((nLot x % p : Nat) : Int))), some (sI ((((nLot x / 64) % p : Nat) : Int)))], [sI ((((nLot x / 64) % p : Nat) : Int)), sI (((nLot x % p : Nat) : Int)), .ref 53], g)) rfl ?_
            refine s_call (k := 170) (args := [.ref 53, sI (((nLot x % p : Nat) : Int)), sI ((((nLot x / 64) % p : Nat) : Int))]) (st := []) (v := some (sI 1)) (h1 := g) rfl ⟨rfl, rfl⟩ rfl rfl rfl rfl (sRcv hg (a := 53) rfl rfl) rfl m1 ?_
            refine s_ifc (q := .eq) (a := 1) rfl ⟨_, rfl⟩ rfl (by unfold sR aMi aMa; omega) (fun hc3 => ?_) (fun hc3 => ?_)
            · have hc3 : (1 : Int) = 0 := hc3
              omega
            · have hc3 : ¬ ((1 : Int) = 0) := hc3
              refine sP 3 (g1 := (79, [some (.ref 53), some (sI ((n : Int))), some (sI SS), some (sJ (((nLot x : Nat) : Int))), none, some (sI ((i : Int))), some (sI (((nLot x % p : Nat) : Int))), some (sI ((((nLot x / 64) % p : Nat) : Int)))], [sI ((((nLot x / 64) % p : Nat) : Int)), sI (((nLot x % p : Nat) : Int)), .ref 53], g)) rfl ?_
              refine s_call (k := 173) (args := [.ref 53, sI (((nLot x % p : Nat) : Int)), sI ((((nLot x / 64) % p : Nat) : Int))]) (st := []) (v := none) (h1 := g2) rfl ⟨rfl, rfl⟩ rfl rfl rfl rfl (sRcv hg (a := 53) rfl rfl) rfl t1 ?_
              refine sP 1 (g1 := (84, [some (.ref 53), some (sI ((n : Int))), some (sI SS), some (sJ (((nLot x : Nat) : Int))), none, some (sI ((i : Int))), some (sI (((nLot x % p : Nat) : Int))), some (sI ((((nLot x / 64) % p : Nat) : Int)))], [], g2)) rfl ?_
              refine s_inc (a := (i : Int)) (n := 1) (k := 5) rfl rfl rfl ?_
              refine sP 1 (g1 := (34, [some (.ref 53), some (sI ((n : Int))), some (sI SS), some (sJ (((nLot x : Nat) : Int))), none, some (sI (((i : Int)) + 1)), some (sI (((nLot x % p : Nat) : Int))), some (sI ((((nLot x / 64) % p : Nat) : Int)))], [], g2)) rfl ?_
              rw [show ((i : Int) + 1) = ((i + 1 : Nat) : Int) by omega]
              exact k1
      · obtain ⟨g3, k1, k2, k3, k4⟩ := j5 (some (sI ((nLot x % p : Nat) : Int))) (some (sI ((nLot x / 64 % p : Nat) : Int)))
        refine ⟨g3, ?_, k2, fun p m w => by rw [k3 p m w, y2 p m w], k4⟩
        refine sP 2 (g1 := (36, [some (.ref 53), some (sI ((n : Int))), some (sI SS), some (sJ ((x : Int))), none, some (sI ((i : Int))), X6, X7], [sI ((n : Int)), sI ((i : Int))], g)) rfl ?_
        refine s_icmp (q := .ge) (a := (i : Int)) (b := (n : Int)) rfl ⟨_, rfl⟩ rfl (by unfold sR aMi aMa; omega) (by unfold sR aMi aMa; omega) (fun hc1 => ?_) (fun hc1 => ?_)
        · have hc1 : (((n : Int)) : Int) ≤ ((i : Int)) := hc1
          omega
        · have hc1 : ¬ ((((n : Int)) : Int) ≤ ((i : Int))) := hc1
          refine sP 2 (g1 := (39, [some (.ref 53), some (sI ((n : Int))), some (sI SS), some (sJ ((x : Int))), none, some (sI ((i : Int))), X6, X7], [sJ ((x : Int)), sJ 48271], g)) rfl ?_
          refine s_lmul (a := 48271) (b := (x : Int)) rfl rfl ?_
          rw [show (48271 : Int) * (x : Int) = ((48271 * x : Nat) : Int) by omega]
          refine sP 1 (g1 := (41, [some (.ref 53), some (sI ((n : Int))), some (sI SS), some (sJ ((x : Int))), none, some (sI ((i : Int))), X6, X7], [sJ 2147483647, sJ (((48271 * x : Nat) : Int))], g)) rfl ?_
          refine s_lremN (a := 48271 * x) (b := 2147483647) rfl rfl (by omega) (by omega) (by omega) ?_
          rw [show ((48271 * x % 2147483647 : Nat) : Int) = ((nLot x : Nat) : Int) from rfl]
          refine sP 3 (g1 := (45, [some (.ref 53), some (sI ((n : Int))), some (sI SS), some (sJ (((nLot x : Nat) : Int))), none, some (sI ((i : Int))), X6, X7], [.ref 53, sJ (((nLot x : Nat) : Int))], g)) rfl ?_
          refine s_get (a := 53) (j := 4) hg rfl ⟨_, rfl⟩ rfl rfl rfl (v := .ref 58) (hR_ok hg (by decide +kernel)) ?_
          refine sP 1 (g1 := (47, [some (.ref 53), some (sI ((n : Int))), some (sI SS), some (sJ (((nLot x : Nat) : Int))), none, some (sI ((i : Int))), X6, X7], [sI 0, .ref 58, sJ (((nLot x : Nat) : Int))], g)) rfl ?_
          refine s_iald (a := 58) (n := 201) (j := 0) hg rfl rfl rfl (by omega) (by omega) (by decide) (v := sI ((p : Int))) (by have q := hI_ok hg nw_p; rw [ep2] at q; exact q) ?_
          refine s_i2l (a := (p : Int)) rfl rfl (by unfold sR aMi aMa; omega) ?_
          refine s_lremN (a := nLot x) (b := p) rfl rfl (by omega) (by omega) (by omega) ?_
          refine s_l2i (a := ((nLot x % p : Nat) : Int)) rfl rfl ?_
          refine sP 3 (g1 := (54, [some (.ref 53), some (sI ((n : Int))), some (sI SS), some (sJ (((nLot x : Nat) : Int))), none, some (sI ((i : Int))), some (sI (((nLot x % p : Nat) : Int))), X7], [sJ 64, sJ (((nLot x : Nat) : Int))], g)) rfl ?_
          refine s_ldivN (a := nLot x) (b := 64) rfl rfl (by omega) (by omega) (by omega) ?_
          refine sP 1 (g1 := (56, [some (.ref 53), some (sI ((n : Int))), some (sI SS), some (sJ (((nLot x : Nat) : Int))), none, some (sI ((i : Int))), some (sI (((nLot x % p : Nat) : Int))), X7], [.ref 53, sJ (((nLot x / 64 : Nat) : Int))], g)) rfl ?_
          refine s_get (a := 53) (j := 4) hg rfl ⟨_, rfl⟩ rfl rfl rfl (v := .ref 58) (hR_ok hg (by decide +kernel)) ?_
          refine sP 1 (g1 := (58, [some (.ref 53), some (sI ((n : Int))), some (sI SS), some (sJ (((nLot x : Nat) : Int))), none, some (sI ((i : Int))), some (sI (((nLot x % p : Nat) : Int))), X7], [sI 0, .ref 58, sJ (((nLot x / 64 : Nat) : Int))], g)) rfl ?_
          refine s_iald (a := 58) (n := 201) (j := 0) hg rfl rfl rfl (by omega) (by omega) (by decide) (v := sI ((p : Int))) (by have q := hI_ok hg nw_p; rw [ep2] at q; exact q) ?_
          refine s_i2l (a := (p : Int)) rfl rfl (by unfold sR aMi aMa; omega) ?_
          refine s_lremN (a := (nLot x / 64)) (b := p) rfl rfl (by omega) (by omega) (by omega) ?_
          refine s_l2i (a := (((nLot x / 64) % p : Nat) : Int)) rfl rfl ?_
          refine sP 3 (g1 := (65, [some (.ref 53), some (sI ((n : Int))), some (sI SS), some (sJ (((nLot x : Nat) : Int))), none, some (sI ((i : Int))), some (sI (((nLot x % p : Nat) : Int))), some (sI ((((nLot x / 64) % p : Nat) : Int)))], [sJ 8, sJ (((nLot x : Nat) : Int))], g)) rfl ?_
          refine s_ldivN (a := nLot x) (b := 8) rfl rfl (by omega) (by omega) (by omega) ?_
          refine sP 1 (g1 := (67, [some (.ref 53), some (sI ((n : Int))), some (sI SS), some (sJ (((nLot x : Nat) : Int))), none, some (sI ((i : Int))), some (sI (((nLot x % p : Nat) : Int))), some (sI ((((nLot x / 64) % p : Nat) : Int)))], [sJ 4, sJ (((nLot x / 8 : Nat) : Int))], g)) rfl ?_
          refine s_lremN (a := (nLot x / 8)) (b := 4) rfl rfl (by omega) (by omega) (by omega) ?_
          refine sP 1 (g1 := (69, [some (.ref 53), some (sI ((n : Int))), some (sI SS), some (sJ (((nLot x : Nat) : Int))), none, some (sI ((i : Int))), some (sI (((nLot x % p : Nat) : Int))), some (sI ((((nLot x / 64) % p : Nat) : Int)))], [sJ 0, sJ ((((nLot x / 8) % 4 : Nat) : Int))], g)) rfl ?_
          refine s_lif (q := .ne) (a := (((nLot x / 8) % 4 : Nat) : Int)) (b := 0) rfl rfl rfl ⟨_, rfl⟩ rfl (by unfold sRJ; omega) (by unfold sRJ; omega) (fun hc2 => ?_) (fun hc2 => ?_)
          · have hc2 : (((((nLot x / 8) % 4 : Nat) : Int)) : Int) ≠ 0 := hc2
            omega
          · have hc2 : ¬ ((((((nLot x / 8) % 4 : Nat) : Int)) : Int) ≠ 0) := hc2
            refine sP 3 (g1 := (74, [some (.ref 53), some (sI ((n : Int))), some (sI SS), some (sJ (((nLot x : Nat) : Int))), none, some (sI ((i : Int))), some (sI (((nLot x % p : Nat) : Int))), some (sI ((((nLot x / 64) % p : Nat) : Int)))], [sI ((((nLot x / 64) % p : Nat) : Int)), sI (((nLot x % p : Nat) : Int)), .ref 53], g)) rfl ?_
            refine s_call (k := 170) (args := [.ref 53, sI (((nLot x % p : Nat) : Int)), sI ((((nLot x / 64) % p : Nat) : Int))]) (st := []) (v := some (sI 0)) (h1 := g) rfl ⟨rfl, rfl⟩ rfl rfl rfl rfl (sRcv hg (a := 53) rfl rfl) rfl m1 ?_
            refine s_ifc (q := .eq) (a := 0) rfl ⟨_, rfl⟩ rfl (by unfold sR aMi aMa; omega) (fun hc3 => ?_) (fun hc3 => ?_)
            · have hc3 : (0 : Int) = 0 := hc3
              refine sP 2 (g1 := (83, [some (.ref 53), some (sI ((n : Int))), some (sI SS), some (sJ (((nLot x : Nat) : Int))), none, some (sI ((i : Int))), some (sI (((nLot x % p : Nat) : Int))), some (sI ((((nLot x / 64) % p : Nat) : Int)))], [sI (((nLot x % p : Nat) : Int)), .ref 53], g)) rfl ?_
              refine s_call (k := 164) (args := [.ref 53, sI (((nLot x % p : Nat) : Int))]) (st := []) (v := none) (h1 := g2) rfl ⟨rfl, rfl⟩ rfl rfl rfl rfl (sRcv hg (a := 53) rfl rfl) rfl t1 ?_
              refine s_inc (a := (i : Int)) (n := 1) (k := 5) rfl rfl rfl ?_
              refine sP 1 (g1 := (34, [some (.ref 53), some (sI ((n : Int))), some (sI SS), some (sJ (((nLot x : Nat) : Int))), none, some (sI (((i : Int)) + 1)), some (sI (((nLot x % p : Nat) : Int))), some (sI ((((nLot x / 64) % p : Nat) : Int)))], [], g2)) rfl ?_
              rw [show ((i : Int) + 1) = ((i + 1 : Nat) : Int) by omega]
              exact k1
            · have hc3 : ¬ ((0 : Int) = 0) := hc3
              omega
      · obtain ⟨g3, k1, k2, k3, k4⟩ := j5 (some (sI ((nLot x % p : Nat) : Int))) (some (sI ((nLot x / 64 % p : Nat) : Int)))
        refine ⟨g3, ?_, k2, fun p m w => by rw [k3 p m w, y2 p m w], k4⟩
        refine sP 2 (g1 := (36, [some (.ref 53), some (sI ((n : Int))), some (sI SS), some (sJ ((x : Int))), none, some (sI ((i : Int))), X6, X7], [sI ((n : Int)), sI ((i : Int))], g)) rfl ?_
        refine s_icmp (q := .ge) (a := (i : Int)) (b := (n : Int)) rfl ⟨_, rfl⟩ rfl (by unfold sR aMi aMa; omega) (by unfold sR aMi aMa; omega) (fun hc1 => ?_) (fun hc1 => ?_)
        · have hc1 : (((n : Int)) : Int) ≤ ((i : Int)) := hc1
          omega
        · have hc1 : ¬ ((((n : Int)) : Int) ≤ ((i : Int))) := hc1
          refine sP 2 (g1 := (39, [some (.ref 53), some (sI ((n : Int))), some (sI SS), some (sJ ((x : Int))), none, some (sI ((i : Int))), X6, X7], [sJ ((x : Int)), sJ 48271], g)) rfl ?_
          refine s_lmul (a := 48271) (b := (x : Int)) rfl rfl ?_
          rw [show (48271 : Int) * (x : Int) = ((48271 * x : Nat) : Int) by omega]
          refine sP 1 (g1 := (41, [some (.ref 53), some (sI ((n : Int))), some (sI SS), some (sJ ((x : Int))), none, some (sI ((i : Int))), X6, X7], [sJ 2147483647, sJ (((48271 * x : Nat) : Int))], g)) rfl ?_
          refine s_lremN (a := 48271 * x) (b := 2147483647) rfl rfl (by omega) (by omega) (by omega) ?_
          rw [show ((48271 * x % 2147483647 : Nat) : Int) = ((nLot x : Nat) : Int) from rfl]
          refine sP 3 (g1 := (45, [some (.ref 53), some (sI ((n : Int))), some (sI SS), some (sJ (((nLot x : Nat) : Int))), none, some (sI ((i : Int))), X6, X7], [.ref 53, sJ (((nLot x : Nat) : Int))], g)) rfl ?_
          refine s_get (a := 53) (j := 4) hg rfl ⟨_, rfl⟩ rfl rfl rfl (v := .ref 58) (hR_ok hg (by decide +kernel)) ?_
          refine sP 1 (g1 := (47, [some (.ref 53), some (sI ((n : Int))), some (sI SS), some (sJ (((nLot x : Nat) : Int))), none, some (sI ((i : Int))), X6, X7], [sI 0, .ref 58, sJ (((nLot x : Nat) : Int))], g)) rfl ?_
          refine s_iald (a := 58) (n := 201) (j := 0) hg rfl rfl rfl (by omega) (by omega) (by decide) (v := sI ((p : Int))) (by have q := hI_ok hg nw_p; rw [ep2] at q; exact q) ?_
          refine s_i2l (a := (p : Int)) rfl rfl (by unfold sR aMi aMa; omega) ?_
          refine s_lremN (a := nLot x) (b := p) rfl rfl (by omega) (by omega) (by omega) ?_
          refine s_l2i (a := ((nLot x % p : Nat) : Int)) rfl rfl ?_
          refine sP 3 (g1 := (54, [some (.ref 53), some (sI ((n : Int))), some (sI SS), some (sJ (((nLot x : Nat) : Int))), none, some (sI ((i : Int))), some (sI (((nLot x % p : Nat) : Int))), X7], [sJ 64, sJ (((nLot x : Nat) : Int))], g)) rfl ?_
          refine s_ldivN (a := nLot x) (b := 64) rfl rfl (by omega) (by omega) (by omega) ?_
          refine sP 1 (g1 := (56, [some (.ref 53), some (sI ((n : Int))), some (sI SS), some (sJ (((nLot x : Nat) : Int))), none, some (sI ((i : Int))), some (sI (((nLot x % p : Nat) : Int))), X7], [.ref 53, sJ (((nLot x / 64 : Nat) : Int))], g)) rfl ?_
          refine s_get (a := 53) (j := 4) hg rfl ⟨_, rfl⟩ rfl rfl rfl (v := .ref 58) (hR_ok hg (by decide +kernel)) ?_
          refine sP 1 (g1 := (58, [some (.ref 53), some (sI ((n : Int))), some (sI SS), some (sJ (((nLot x : Nat) : Int))), none, some (sI ((i : Int))), some (sI (((nLot x % p : Nat) : Int))), X7], [sI 0, .ref 58, sJ (((nLot x / 64 : Nat) : Int))], g)) rfl ?_
          refine s_iald (a := 58) (n := 201) (j := 0) hg rfl rfl rfl (by omega) (by omega) (by decide) (v := sI ((p : Int))) (by have q := hI_ok hg nw_p; rw [ep2] at q; exact q) ?_
          refine s_i2l (a := (p : Int)) rfl rfl (by unfold sR aMi aMa; omega) ?_
          refine s_lremN (a := (nLot x / 64)) (b := p) rfl rfl (by omega) (by omega) (by omega) ?_
          refine s_l2i (a := (((nLot x / 64) % p : Nat) : Int)) rfl rfl ?_
          refine sP 3 (g1 := (65, [some (.ref 53), some (sI ((n : Int))), some (sI SS), some (sJ (((nLot x : Nat) : Int))), none, some (sI ((i : Int))), some (sI (((nLot x % p : Nat) : Int))), some (sI ((((nLot x / 64) % p : Nat) : Int)))], [sJ 8, sJ (((nLot x : Nat) : Int))], g)) rfl ?_
          refine s_ldivN (a := nLot x) (b := 8) rfl rfl (by omega) (by omega) (by omega) ?_
          refine sP 1 (g1 := (67, [some (.ref 53), some (sI ((n : Int))), some (sI SS), some (sJ (((nLot x : Nat) : Int))), none, some (sI ((i : Int))), some (sI (((nLot x % p : Nat) : Int))), some (sI ((((nLot x / 64) % p : Nat) : Int)))], [sJ 4, sJ (((nLot x / 8 : Nat) : Int))], g)) rfl ?_
          refine s_lremN (a := (nLot x / 8)) (b := 4) rfl rfl (by omega) (by omega) (by omega) ?_
          refine sP 1 (g1 := (69, [some (.ref 53), some (sI ((n : Int))), some (sI SS), some (sJ (((nLot x : Nat) : Int))), none, some (sI ((i : Int))), some (sI (((nLot x % p : Nat) : Int))), some (sI ((((nLot x / 64) % p : Nat) : Int)))], [sJ 0, sJ ((((nLot x / 8) % 4 : Nat) : Int))], g)) rfl ?_
          refine s_lif (q := .ne) (a := (((nLot x / 8) % 4 : Nat) : Int)) (b := 0) rfl rfl rfl ⟨_, rfl⟩ rfl (by unfold sRJ; omega) (by unfold sRJ; omega) (fun hc2 => ?_) (fun hc2 => ?_)
          · have hc2 : (((((nLot x / 8) % 4 : Nat) : Int)) : Int) ≠ 0 := hc2
            refine sP 2 (g1 := (83, [some (.ref 53), some (sI ((n : Int))), some (sI SS), some (sJ (((nLot x : Nat) : Int))), none, some (sI ((i : Int))), some (sI (((nLot x % p : Nat) : Int))), some (sI ((((nLot x / 64) % p : Nat) : Int)))], [sI (((nLot x % p : Nat) : Int)), .ref 53], g)) rfl ?_
            refine s_call (k := 164) (args := [.ref 53, sI (((nLot x % p : Nat) : Int))]) (st := []) (v := none) (h1 := g2) rfl ⟨rfl, rfl⟩ rfl rfl rfl rfl (sRcv hg (a := 53) rfl rfl) rfl t1 ?_
            refine s_inc (a := (i : Int)) (n := 1) (k := 5) rfl rfl rfl ?_
            refine sP 1 (g1 := (34, [some (.ref 53), some (sI ((n : Int))), some (sI SS), some (sJ (((nLot x : Nat) : Int))), none, some (sI (((i : Int)) + 1)), some (sI (((nLot x % p : Nat) : Int))), some (sI ((((nLot x / 64) % p : Nat) : Int)))], [], g2)) rfl ?_
            rw [show ((i : Int) + 1) = ((i + 1 : Nat) : Int) by omega]
            exact k1
          · have hc2 : ¬ ((((((nLot x / 8) % 4 : Nat) : Int)) : Int) ≠ 0) := hc2
            omega
end LOTX

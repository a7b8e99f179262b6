/-! digest -/
def dg (H : Int64) (e : Int) : Int64 := Int64.ofInt 31 * H + (Int32.ofInt e).toInt64
def dgL (f : Nat → Int) : Nat → Nat → Int64 → Int64
  | 0, _, H => H
  | c + 1, k, H => dgL f c (k + 1) (dg H (f k))
def dgP (f g : Nat → Nat → Int) (n : Nat) : Nat → Nat → Int64 → Int64
  | 0, _, H => H
  | c + 1, a, H => dgP f g n c (a + 1) (dgL (g a) n 0 (dgL (f a) 5 0 H))
def dgR (z : Nat → Int) (f : Nat → Nat → Int) : Nat → Nat → Int64 → Int64
  | 0, _, H => H
  | c + 1, r, H => dgR z f c (r + 1) (dgL (f r) (z r).toNat 0 (dg H (z r)))
theorem dgL_cg {f g : Nat → Int} : ∀ (c k : Nat) (H : Int64), (∀ j, k ≤ j → j < k + c → Int32.ofInt (f j) = Int32.ofInt (g j)) → dgL f c k H = dgL g c k H
  | 0, _, _, _ => rfl
  | c + 1, k, H, h => by
    show dgL f c (k + 1) (dg H (f k)) = dgL g c (k + 1) (dg H (g k))
    have e : dg H (f k) = dg H (g k) := by
      unfold dg
      rw [h k (Nat.le_refl _) (by omega)]
    rw [e]
    exact dgL_cg c (k + 1) _ (fun j h1 h2 => h j (by omega) (by omega))
theorem dgP_cg {f g f1 g1 : Nat → Nat → Int} {n : Nat} : ∀ (c a : Nat) (H : Int64), (∀ j, a ≤ j → j < a + c → (∀ k, k < 5 → f j k = f1 j k) ∧ ∀ b, b < n → g j b = g1 j b) → dgP f g n c a H = dgP f1 g1 n c a H
  | 0, _, _, _ => rfl
  | c + 1, a, H, h => by
    show dgP f g n c (a + 1) (dgL (g a) n 0 (dgL (f a) 5 0 H)) = dgP f1 g1 n c (a + 1) (dgL (g1 a) n 0 (dgL (f1 a) 5 0 H))
    obtain ⟨h1, h2⟩ := h a (Nat.le_refl _) (by omega)
    rw [dgL_cg (f := f a) (g := f1 a) 5 0 H (fun j _ hj => by rw [h1 j (by omega)]), dgL_cg (f := g a) (g := g1 a) n 0 _ (fun j _ hj => by rw [h2 j (by omega)])]
    exact dgP_cg c (a + 1) _ (fun j k1 k2 => h j (by omega) (by omega))
theorem dgR_cg {z z1 : Nat → Int} {f f1 : Nat → Nat → Int} : ∀ (c r : Nat) (H : Int64), (∀ j, r ≤ j → j < r + c → z j = z1 j ∧ ∀ i, i < (z j).toNat → f j i = f1 j i) → dgR z f c r H = dgR z1 f1 c r H
  | 0, _, _, _ => rfl
  | c + 1, r, H, h => by
    show dgR z f c (r + 1) (dgL (f r) (z r).toNat 0 (dg H (z r))) = dgR z1 f1 c (r + 1) (dgL (f1 r) (z1 r).toNat 0 (dg H (z1 r)))
    obtain ⟨h1, h2⟩ := h r (Nat.le_refl _) (by omega)
    rw [dgL_cg (f := f r) (g := f1 r) (z r).toNat 0 _ (fun j _ hj => by rw [h2 j (by omega)]), h1]
    exact dgR_cg c (r + 1) _ (fun j k1 k2 => h j (by omega) (by omega))
section DIG
variable {sc : List Int32} {d : Nat} {h : mH}
theorem s_i2lr {rt : Option FieldType} {cs : List mE} {i : Nat} {L : mL} {st : List Value} {r : mR} {en : mE} {x : Int32} (he : cs[i]? = some en) (ho : en.2.1 = .i2l) (hr : nRn sc d rt cs (i + 1, L, .long x.toInt64 :: st, h) r) : nRn sc d rt cs (i, L, .int x :: st, h) r := by
  refine sStep he (by unfold nCl; rw [ho]; intro q; cases q) (fun call => mStep_B2 ?_) hr
  unfold mB2
  rw [ho]
theorem fDgA {a : Nat} {n : Nat} {B : Int64} {r : mR} (hh : aHp h) (hn : hI h 3 3 = n) (ha : a < 6) : ∀ (c k : Nat) (H : Int64) , k + c = 5 → (∀ Z : Option Value, nRn sc (d + 5) (mMT mMe121) (mMC mMe121) (25, [some (.ref 3), some (.long B), none, some (.long (dgL (aX9 h n a) c k H)), none, some (sI ((a : Int))), Z], [], h) r) → nRn sc (d + 5) (mMT mMe121) (mMC mMe121) (10, [some (.ref 3), some (.long B), none, some (.long H), none, some (sI ((a : Int))), some (sI ((k : Int)))], [], h) r := by
  intro c
  induction c with
  | zero =>
    intro k H hk hr
    refine sP 2 (g1 := (12, [some (.ref 3), some (.long B), none, some (.long H), none, some (sI ((a : Int))), some (sI ((k : Int)))], [sI 4, sI ((k : Int))], h)) rfl ?_
    refine s_icmp (q := .gt) (a := (k : Int)) (b := 4) rfl ⟨_, rfl⟩ rfl (by unfold sR aMi aMa; omega) (by unfold sR aMi aMa; omega) (fun hc1 => ?_) (fun hc1 => ?_)
    · have hc1 : (4 : Int) < ((k : Int)) := hc1
      exact hr _
    · have hc1 : ¬ ((4 : Int) < ((k : Int))) := hc1
      omega
  | succ c ih =>
    intro k H hk hr
    refine sP 2 (g1 := (12, [some (.ref 3), some (.long B), none, some (.long H), none, some (sI ((a : Int))), some (sI ((k : Int)))], [sI 4, sI ((k : Int))], h)) rfl ?_
    refine s_icmp (q := .gt) (a := (k : Int)) (b := 4) rfl ⟨_, rfl⟩ rfl (by unfold sR aMi aMa; omega) (by unfold sR aMi aMa; omega) (fun hc1 => ?_) (fun hc1 => ?_)
    · have hc1 : (4 : Int) < ((k : Int)) := hc1
      omega
    · have hc1 : ¬ ((4 : Int) < ((k : Int))) := hc1
      refine sP 2 (g1 := (15, [some (.ref 3), some (.long B), none, some (.long H), none, some (sI ((a : Int))), some (sI ((k : Int)))], [.long H, sJ 31], h)) rfl ?_
      refine s_b2 (w := Int64.ofInt 31 * H) rfl rfl rfl ?_
      refine sP 3 (g1 := (19, [some (.ref 3), some (.long B), none, some (.long H), none, some (sI ((a : Int))), some (sI ((k : Int)))], [sI ((k : Int)), sI ((a : Int)), .ref 3, .long (Int64.ofInt 31 * H)], h)) rfl ?_
      refine s_call (k := 36) (args := [.ref 3, sI ((a : Int)), sI ((k : Int))]) (st := [.long (Int64.ofInt 31 * H)]) (v := some (sI (aX9 h n a k))) (h1 := h) rfl ⟨rfl, rfl⟩ rfl rfl rfl rfl (sRcv hh (a := 3) rfl rfl) rfl (fAb hh hn ha (by omega)) ?_
      refine s_i2lr rfl rfl ?_
      refine s_b2 (w := dg H (aX9 h n a k)) rfl rfl rfl ?_
      refine sP 1 (g1 := (23, [some (.ref 3), some (.long B), none, some (.long (dg H (aX9 h n a k))), none, some (sI ((a : Int))), some (sI ((k : Int)))], [], h)) rfl ?_
      refine s_inc (a := (k : Int)) (n := 1) (k := 6) rfl rfl rfl ?_
      refine sP 1 (g1 := (10, [some (.ref 3), some (.long B), none, some (.long (dg H (aX9 h n a k))), none, some (sI ((a : Int))), some (sI (((k : Int)) + 1))], [], h)) rfl ?_
      rw [show ((k : Int) + 1) = ((k + 1 : Nat) : Int) by omega]
      exact ih (k + 1) _ (by omega) hr
theorem fDgB {a : Nat} {n : Nat} {B : Int64} {r : mR} (hh : aHp h) (hn : hI h 3 3 = n) (ha : a < 6) : ∀ (c k : Nat) (H : Int64) , k + c = n → (∀ Z : Option Value, nRn sc (d + 5) (mMT mMe121) (mMC mMe121) (43, [some (.ref 3), some (.long B), none, some (.long (dgL (fun b => hI h 5 (6 * a + b)) c k H)), none, some (sI ((a : Int))), Z], [], h) r) → nRn sc (d + 5) (mMT mMe121) (mMC mMe121) (27, [some (.ref 3), some (.long B), none, some (.long H), none, some (sI ((a : Int))), some (sI ((k : Int)))], [], h) r := by
  have gp := hI_rg hh xw_p
  intro c
  induction c with
  | zero =>
    intro k H hk hr
    refine sP 2 (g1 := (29, [some (.ref 3), some (.long B), none, some (.long H), none, some (sI ((a : Int))), some (sI ((k : Int)))], [.ref 3, sI ((k : Int))], h)) rfl ?_
    refine s_get (a := 3) (j := 3) hh rfl ⟨_, rfl⟩ rfl rfl rfl (v := sI ((n : Int))) (by have q := hI_ok hh xw_p; rw [hn] at q; exact q) ?_
    refine s_icmp (q := .ge) (a := (k : Int)) (b := (n : Int)) rfl ⟨_, rfl⟩ rfl (by unfold sR aMi aMa; omega) (by unfold sR aMi aMa; omega) (fun hc1 => ?_) (fun hc1 => ?_)
    · have hc1 : (((n : Int)) : Int) ≤ ((k : Int)) := hc1
      exact hr _
    · have hc1 : ¬ ((((n : Int)) : Int) ≤ ((k : Int))) := hc1
      omega
  | succ c ih =>
    intro k H hk hr
    refine sP 2 (g1 := (29, [some (.ref 3), some (.long B), none, some (.long H), none, some (sI ((a : Int))), some (sI ((k : Int)))], [.ref 3, sI ((k : Int))], h)) rfl ?_
    refine s_get (a := 3) (j := 3) hh rfl ⟨_, rfl⟩ rfl rfl rfl (v := sI ((n : Int))) (by have q := hI_ok hh xw_p; rw [hn] at q; exact q) ?_
    refine s_icmp (q := .ge) (a := (k : Int)) (b := (n : Int)) rfl ⟨_, rfl⟩ rfl (by unfold sR aMi aMa; omega) (by unfold sR aMi aMa; omega) (fun hc1 => ?_) (fun hc1 => ?_)
    · have hc1 : (((n : Int)) : Int) ≤ ((k : Int)) := hc1
      omega
    · have hc1 : ¬ ((((n : Int)) : Int) ≤ ((k : Int))) := hc1
      refine sP 2 (g1 := (33, [some (.ref 3), some (.long B), none, some (.long H), none, some (sI ((a : Int))), some (sI ((k : Int)))], [.long H, sJ 31], h)) rfl ?_
      refine s_b2 (w := Int64.ofInt 31 * H) rfl rfl rfl ?_
      refine sP 3 (g1 := (37, [some (.ref 3), some (.long B), none, some (.long H), none, some (sI ((a : Int))), some (sI ((k : Int)))], [sI ((k : Int)), sI ((a : Int)), .ref 3, .long (Int64.ofInt 31 * H)], h)) rfl ?_
      refine s_call (k := 40) (args := [.ref 3, sI ((a : Int)), sI ((k : Int))]) (st := [.long (Int64.ofInt 31 * H)]) (v := some (sI (hI h 5 (6 * a + k)))) (h1 := h) rfl ⟨rfl, rfl⟩ rfl rfl rfl rfl (sRcv hh (a := 3) rfl rfl) rfl (fLookX hh (by decide) ha (by omega)) ?_
      refine s_i2lr rfl rfl ?_
      refine s_b2 (w := dg H (hI h 5 (6 * a + k))) rfl rfl rfl ?_
      refine sP 1 (g1 := (41, [some (.ref 3), some (.long B), none, some (.long (dg H (hI h 5 (6 * a + k)))), none, some (sI ((a : Int))), some (sI ((k : Int)))], [], h)) rfl ?_
      refine s_inc (a := (k : Int)) (n := 1) (k := 6) rfl rfl rfl ?_
      refine sP 1 (g1 := (27, [some (.ref 3), some (.long B), none, some (.long (dg H (hI h 5 (6 * a + k)))), none, some (sI ((a : Int))), some (sI (((k : Int)) + 1))], [], h)) rfl ?_
      rw [show ((k : Int) + 1) = ((k + 1 : Nat) : Int) by omega]
      exact ih (k + 1) _ (by omega) hr
theorem fDgE {n : Nat} {B : Int64} {r : mR} (hh : aHp h) (hn : hI h 3 3 = n) : ∀ (c k : Nat) (H : Int64) (X : Option Value) , k + c = n → (∀ X Z : Option Value, nRn sc (d + 5) (mMT mMe121) (mMC mMe121) (45, [some (.ref 3), some (.long B), none, some (.long (dgP (aX9 h n) (fun a b => hI h 5 (6 * a + b)) n c k H)), none, Z, X], [], h) r) → nRn sc (d + 5) (mMT mMe121) (mMC mMe121) (4, [some (.ref 3), some (.long B), none, some (.long H), none, some (sI ((k : Int))), X], [], h) r := by
  have gp := hI_rg hh xw_p
  intro c
  induction c with
  | zero =>
    intro k H X hk hr
    refine sP 2 (g1 := (6, [some (.ref 3), some (.long B), none, some (.long H), none, some (sI ((k : Int))), X], [.ref 3, sI ((k : Int))], h)) rfl ?_
    refine s_get (a := 3) (j := 3) hh rfl ⟨_, rfl⟩ rfl rfl rfl (v := sI ((n : Int))) (by have q := hI_ok hh xw_p; rw [hn] at q; exact q) ?_
    refine s_icmp (q := .ge) (a := (k : Int)) (b := (n : Int)) rfl ⟨_, rfl⟩ rfl (by unfold sR aMi aMa; omega) (by unfold sR aMi aMa; omega) (fun hc1 => ?_) (fun hc1 => ?_)
    · have hc1 : (((n : Int)) : Int) ≤ ((k : Int)) := hc1
      exact hr _ _
    · have hc1 : ¬ ((((n : Int)) : Int) ≤ ((k : Int))) := hc1
      omega
  | succ c ih =>
    intro k H X hk hr
    refine sP 2 (g1 := (6, [some (.ref 3), some (.long B), none, some (.long H), none, some (sI ((k : Int))), X], [.ref 3, sI ((k : Int))], h)) rfl ?_
    refine s_get (a := 3) (j := 3) hh rfl ⟨_, rfl⟩ rfl rfl rfl (v := sI ((n : Int))) (by have q := hI_ok hh xw_p; rw [hn] at q; exact q) ?_
    refine s_icmp (q := .ge) (a := (k : Int)) (b := (n : Int)) rfl ⟨_, rfl⟩ rfl (by unfold sR aMi aMa; omega) (by unfold sR aMi aMa; omega) (fun hc1 => ?_) (fun hc1 => ?_)
    · have hc1 : (((n : Int)) : Int) ≤ ((k : Int)) := hc1
      omega
    · have hc1 : ¬ ((((n : Int)) : Int) ≤ ((k : Int))) := hc1
      refine sP 2 (g1 := (10, [some (.ref 3), some (.long B), none, some (.long H), none, some (sI ((k : Int))), some (sI 0)], [], h)) rfl ?_
      refine fDgA (a := k) hh hn (by omega) 5 0 _ (by omega) (fun Z1 => ?_)
      refine sP 2 (g1 := (27, [some (.ref 3), some (.long B), none, some (.long (dgL (aX9 h n k) 5 0 H)), none, some (sI ((k : Int))), some (sI 0)], [], h)) rfl ?_
      refine fDgB (a := k) hh hn (by omega) n 0 _ (by omega) (fun Z2 => ?_)
      refine s_inc (a := (k : Int)) (n := 1) (k := 5) rfl rfl rfl ?_
      refine sP 1 (g1 := (4, [some (.ref 3), some (.long B), none, some (.long (dgL (fun b => hI h 5 (6 * k + b)) n 0 (dgL (aX9 h n k) 5 0 H))), none, some (sI (((k : Int)) + 1)), Z2], [], h)) rfl ?_
      rw [show ((k : Int) + 1) = ((k + 1 : Nat) : Int) by omega]
      exact ih (k + 1) _ _ (by omega) hr
theorem fDgEm {n : Nat} {B : Int64} (hh : aHp h) (hn : hI h 3 3 = n) : nEv sc (d + 6) 121 [.ref 3, .long B] h (some (.long (dgP (aX9 h n) (fun a b => hI h 5 (6 * a + b)) n n 0 B)), h) := by
  refine nEv_of (t := mMe121) rfl ?_
  show nRn sc (d + 5) (mMT mMe121) (mMC mMe121) (0, [some (.ref 3), some (.long B), none, none, none, none, none], [], h) _
  refine sP 4 (g1 := (4, [some (.ref 3), some (.long B), none, some (.long B), none, some (sI 0), none], [], h)) rfl ?_
  refine fDgE hh hn n 0 _ _ (by omega) (fun X1 Z1 => ?_)
  refine sP 1 (g1 := (46, [some (.ref 3), some (.long B), none, some (.long (dgP (aX9 h n) (fun a b => hI h 5 (6 * a + b)) n n 0 B)), none, Z1, X1], [.long (dgP (aX9 h n) (fun a b => hI h 5 (6 * a + b)) n n 0 B)], h)) rfl ?_
  exact s_ret rfl rfl
theorem fDgRL {q : Nat} {B : Int64} {r : mR} (hh : aHp h) (hq : q < 6) : ∀ (c k : Nat) (H : Int64) , k + c = (hI h (21 + 2 * q) 1).toNat → (∀ Z : Option Value, nRn sc (d) (mMT mMe122) (mMC mMe122) (26, [some (.ref (21 + 2 * q)), some (.long B), none, some (.long (dgL (hI h (22 + 2 * q)) c k H)), none, Z], [], h) r) → nRn sc (d) (mMT mMe122) (mMC mMe122) (10, [some (.ref (21 + 2 * q)), some (.long B), none, some (.long H), none, some (sI ((k : Int)))], [], h) r := by
  have gz := hI_rg hh (ra_z hq)
  intro c
  induction c with
  | zero =>
    intro k H hk hr
    refine sP 2 (g1 := (12, [some (.ref (21 + 2 * q)), some (.long B), none, some (.long H), none, some (sI ((k : Int)))], [.ref (21 + 2 * q), sI ((k : Int))], h)) rfl ?_
    refine s_get (a := 21 + 2 * q) (j := 1) hh rfl ⟨_, rfl⟩ (ra_t hq) rfl rfl (v := sI (hI h (21 + 2 * q) 1)) (hI_ok hh (ra_z hq)) ?_
    refine s_icmp (q := .ge) (a := (k : Int)) (b := hI h (21 + 2 * q) 1) rfl ⟨_, rfl⟩ rfl (by unfold sR aMi aMa; omega) (by unfold sR aMi aMa; omega) (fun hc1 => ?_) (fun hc1 => ?_)
    · have hc1 : ((hI h (21 + 2 * q) 1) : Int) ≤ ((k : Int)) := hc1
      exact hr _
    · have hc1 : ¬ (((hI h (21 + 2 * q) 1) : Int) ≤ ((k : Int))) := hc1
      omega
  | succ c ih =>
    intro k H hk hr
    refine sP 2 (g1 := (12, [some (.ref (21 + 2 * q)), some (.long B), none, some (.long H), none, some (sI ((k : Int)))], [.ref (21 + 2 * q), sI ((k : Int))], h)) rfl ?_
    refine s_get (a := 21 + 2 * q) (j := 1) hh rfl ⟨_, rfl⟩ (ra_t hq) rfl rfl (v := sI (hI h (21 + 2 * q) 1)) (hI_ok hh (ra_z hq)) ?_
    refine s_icmp (q := .ge) (a := (k : Int)) (b := hI h (21 + 2 * q) 1) rfl ⟨_, rfl⟩ rfl (by unfold sR aMi aMa; omega) (by unfold sR aMi aMa; omega) (fun hc1 => ?_) (fun hc1 => ?_)
    · have hc1 : ((hI h (21 + 2 * q) 1) : Int) ≤ ((k : Int)) := hc1
      omega
    · have hc1 : ¬ (((hI h (21 + 2 * q) 1) : Int) ≤ ((k : Int))) := hc1
      refine sP 2 (g1 := (16, [some (.ref (21 + 2 * q)), some (.long B), none, some (.long H), none, some (sI ((k : Int)))], [.long H, sJ 31], h)) rfl ?_
      refine s_b2 (w := Int64.ofInt 31 * H) rfl rfl rfl ?_
      refine sP 1 (g1 := (18, [some (.ref (21 + 2 * q)), some (.long B), none, some (.long H), none, some (sI ((k : Int)))], [.ref (21 + 2 * q), .long (Int64.ofInt 31 * H)], h)) rfl ?_
      refine s_get (a := 21 + 2 * q) (j := 0) hh rfl ⟨_, rfl⟩ (ra_t hq) rfl rfl (v := .ref (22 + 2 * q)) (hR_ok hh (ra_r hq)) ?_
      refine sP 1 (g1 := (20, [some (.ref (21 + 2 * q)), some (.long B), none, some (.long H), none, some (sI ((k : Int)))], [sI ((k : Int)), .ref (22 + 2 * q), .long (Int64.ofInt 31 * H)], h)) rfl ?_
      refine s_iald (a := 22 + 2 * q) (n := 40) (j := (k : Int)) hh rfl rfl (ra_2 hq) (by omega) (by omega) (by decide) (v := sI (hI h (22 + 2 * q) k)) (by rw [Int.toNat_natCast]; exact hI_ok hh (ra_c hq (by omega))) ?_
      refine s_i2lr rfl rfl ?_
      refine s_b2 (w := dg H (hI h (22 + 2 * q) k)) rfl rfl rfl ?_
      refine sP 1 (g1 := (24, [some (.ref (21 + 2 * q)), some (.long B), none, some (.long (dg H (hI h (22 + 2 * q) k))), none, some (sI ((k : Int)))], [], h)) rfl ?_
      refine s_inc (a := (k : Int)) (n := 1) (k := 5) rfl rfl rfl ?_
      refine sP 1 (g1 := (10, [some (.ref (21 + 2 * q)), some (.long B), none, some (.long (dg H (hI h (22 + 2 * q) k))), none, some (sI (((k : Int)) + 1))], [], h)) rfl ?_
      rw [show ((k : Int) + 1) = ((k + 1 : Nat) : Int) by omega]
      exact ih (k + 1) _ (by omega) hr
theorem fDgR {q : Nat} {B : Int64} (hh : aHp h) (hq : q < 6) : nEv sc (d + 1) 122 [.ref (21 + 2 * q), .long B] h (some (.long (dgL (hI h (22 + 2 * q)) (hI h (21 + 2 * q) 1).toNat 0 (dg B (hI h (21 + 2 * q) 1)))), h) := by
  refine nEv_of (t := mMe122) rfl ?_
  show nRn sc d (mMT mMe122) (mMC mMe122) (0, [some (.ref (21 + 2 * q)), some (.long B), none, none, none, none], [], h) _
  refine sP 2 (g1 := (2, [some (.ref (21 + 2 * q)), some (.long B), none, none, none, none], [.long B, sJ 31], h)) rfl ?_
  refine s_b2 (w := Int64.ofInt 31 * B) rfl rfl rfl ?_
  refine sP 1 (g1 := (4, [some (.ref (21 + 2 * q)), some (.long B), none, none, none, none], [.ref (21 + 2 * q), .long (Int64.ofInt 31 * B)], h)) rfl ?_
  refine s_get (a := 21 + 2 * q) (j := 1) hh rfl ⟨_, rfl⟩ (ra_t hq) rfl rfl (v := sI (hI h (21 + 2 * q) 1)) (hI_ok hh (ra_z hq)) ?_
  refine s_i2lr rfl rfl ?_
  refine s_b2 (w := dg B (hI h (21 + 2 * q) 1)) rfl rfl rfl ?_
  refine sP 3 (g1 := (10, [some (.ref (21 + 2 * q)), some (.long B), none, some (.long (dg B (hI h (21 + 2 * q) 1))), none, some (sI 0)], [], h)) rfl ?_
  refine fDgRL hh hq (hI h (21 + 2 * q) 1).toNat 0 _ (by omega) (fun Z1 => ?_)
  refine sP 1 (g1 := (27, [some (.ref (21 + 2 * q)), some (.long B), none, some (.long (dgL (hI h (22 + 2 * q)) (hI h (21 + 2 * q) 1).toNat 0 (dg B (hI h (21 + 2 * q) 1)))), none, Z1], [.long (dgL (hI h (22 + 2 * q)) (hI h (21 + 2 * q) 1).toNat 0 (dg B (hI h (21 + 2 * q) 1)))], h)) rfl ?_
  exact s_ret rfl rfl
theorem fDgTL {q : Nat} {B : Int64} {r : mR} (hh : aHp h) (hq : q < 4) : ∀ (c k : Nat) (H : Int64) , k + c = (hI h (33 + 2 * q) 1).toNat → (∀ Z : Option Value, nRn sc (d) (mMT mMe123) (mMC mMe123) (26, [some (.ref (33 + 2 * q)), some (.long B), none, some (.long (dgL (hI h (34 + 2 * q)) c k H)), none, Z], [], h) r) → nRn sc (d) (mMT mMe123) (mMC mMe123) (10, [some (.ref (33 + 2 * q)), some (.long B), none, some (.long H), none, some (sI ((k : Int)))], [], h) r := by
  have gz := hI_rg hh (tx_z hq)
  intro c
  induction c with
  | zero =>
    intro k H hk hr
    refine sP 2 (g1 := (12, [some (.ref (33 + 2 * q)), some (.long B), none, some (.long H), none, some (sI ((k : Int)))], [.ref (33 + 2 * q), sI ((k : Int))], h)) rfl ?_
    refine s_get (a := 33 + 2 * q) (j := 1) hh rfl ⟨_, rfl⟩ (tx_a hq) rfl rfl (v := sI (hI h (33 + 2 * q) 1)) (hI_ok hh (tx_z hq)) ?_
    refine s_icmp (q := .ge) (a := (k : Int)) (b := hI h (33 + 2 * q) 1) rfl ⟨_, rfl⟩ rfl (by unfold sR aMi aMa; omega) (by unfold sR aMi aMa; omega) (fun hc1 => ?_) (fun hc1 => ?_)
    · have hc1 : ((hI h (33 + 2 * q) 1) : Int) ≤ ((k : Int)) := hc1
      exact hr _
    · have hc1 : ¬ (((hI h (33 + 2 * q) 1) : Int) ≤ ((k : Int))) := hc1
      omega
  | succ c ih =>
    intro k H hk hr
    refine sP 2 (g1 := (12, [some (.ref (33 + 2 * q)), some (.long B), none, some (.long H), none, some (sI ((k : Int)))], [.ref (33 + 2 * q), sI ((k : Int))], h)) rfl ?_
    refine s_get (a := 33 + 2 * q) (j := 1) hh rfl ⟨_, rfl⟩ (tx_a hq) rfl rfl (v := sI (hI h (33 + 2 * q) 1)) (hI_ok hh (tx_z hq)) ?_
    refine s_icmp (q := .ge) (a := (k : Int)) (b := hI h (33 + 2 * q) 1) rfl ⟨_, rfl⟩ rfl (by unfold sR aMi aMa; omega) (by unfold sR aMi aMa; omega) (fun hc1 => ?_) (fun hc1 => ?_)
    · have hc1 : ((hI h (33 + 2 * q) 1) : Int) ≤ ((k : Int)) := hc1
      omega
    · have hc1 : ¬ (((hI h (33 + 2 * q) 1) : Int) ≤ ((k : Int))) := hc1
      refine sP 2 (g1 := (16, [some (.ref (33 + 2 * q)), some (.long B), none, some (.long H), none, some (sI ((k : Int)))], [.long H, sJ 31], h)) rfl ?_
      refine s_b2 (w := Int64.ofInt 31 * H) rfl rfl rfl ?_
      refine sP 1 (g1 := (18, [some (.ref (33 + 2 * q)), some (.long B), none, some (.long H), none, some (sI ((k : Int)))], [.ref (33 + 2 * q), .long (Int64.ofInt 31 * H)], h)) rfl ?_
      refine s_get (a := 33 + 2 * q) (j := 0) hh rfl ⟨_, rfl⟩ (tx_a hq) rfl rfl (v := .ref (34 + 2 * q)) (hR_ok hh (tx_r hq)) ?_
      refine sP 1 (g1 := (20, [some (.ref (33 + 2 * q)), some (.long B), none, some (.long H), none, some (sI ((k : Int)))], [sI ((k : Int)), .ref (34 + 2 * q), .long (Int64.ofInt 31 * H)], h)) rfl ?_
      refine s_bald (a := 34 + 2 * q) (n := 60) (j := (k : Int)) hh rfl rfl (tx_b hq) (by decide) (by omega) (by omega) (by decide) (v := sI (hI h (34 + 2 * q) k)) (by rw [Int.toNat_natCast]; exact hI_ok hh (tx_s hq (by omega))) ?_
      refine s_i2lr rfl rfl ?_
      refine s_b2 (w := dg H (hI h (34 + 2 * q) k)) rfl rfl rfl ?_
      refine sP 1 (g1 := (24, [some (.ref (33 + 2 * q)), some (.long B), none, some (.long (dg H (hI h (34 + 2 * q) k))), none, some (sI ((k : Int)))], [], h)) rfl ?_
      refine s_inc (a := (k : Int)) (n := 1) (k := 5) rfl rfl rfl ?_
      refine sP 1 (g1 := (10, [some (.ref (33 + 2 * q)), some (.long B), none, some (.long (dg H (hI h (34 + 2 * q) k))), none, some (sI (((k : Int)) + 1))], [], h)) rfl ?_
      rw [show ((k : Int) + 1) = ((k + 1 : Nat) : Int) by omega]
      exact ih (k + 1) _ (by omega) hr
theorem fDgT {q : Nat} {B : Int64} (hh : aHp h) (hq : q < 4) : nEv sc (d + 1) 123 [.ref (33 + 2 * q), .long B] h (some (.long (dgL (hI h (34 + 2 * q)) (hI h (33 + 2 * q) 1).toNat 0 (dg B (hI h (33 + 2 * q) 1)))), h) := by
  refine nEv_of (t := mMe123) rfl ?_
  show nRn sc d (mMT mMe123) (mMC mMe123) (0, [some (.ref (33 + 2 * q)), some (.long B), none, none, none, none], [], h) _
  refine sP 2 (g1 := (2, [some (.ref (33 + 2 * q)), some (.long B), none, none, none, none], [.long B, sJ 31], h)) rfl ?_
  refine s_b2 (w := Int64.ofInt 31 * B) rfl rfl rfl ?_
  refine sP 1 (g1 := (4, [some (.ref (33 + 2 * q)), some (.long B), none, none, none, none], [.ref (33 + 2 * q), .long (Int64.ofInt 31 * B)], h)) rfl ?_
  refine s_get (a := 33 + 2 * q) (j := 1) hh rfl ⟨_, rfl⟩ (tx_a hq) rfl rfl (v := sI (hI h (33 + 2 * q) 1)) (hI_ok hh (tx_z hq)) ?_
  refine s_i2lr rfl rfl ?_
  refine s_b2 (w := dg B (hI h (33 + 2 * q) 1)) rfl rfl rfl ?_
  refine sP 3 (g1 := (10, [some (.ref (33 + 2 * q)), some (.long B), none, some (.long (dg B (hI h (33 + 2 * q) 1))), none, some (sI 0)], [], h)) rfl ?_
  refine fDgTL hh hq (hI h (33 + 2 * q) 1).toNat 0 _ (by omega) (fun Z1 => ?_)
  refine sP 1 (g1 := (27, [some (.ref (33 + 2 * q)), some (.long B), none, some (.long (dgL (hI h (34 + 2 * q)) (hI h (33 + 2 * q) 1).toNat 0 (dg B (hI h (33 + 2 * q) 1)))), none, Z1], [.long (dgL (hI h (34 + 2 * q)) (hI h (33 + 2 * q) 1).toNat 0 (dg B (hI h (33 + 2 * q) 1)))], h)) rfl ?_
  exact s_ret rfl rfl
theorem fDg1 {n : Nat} {r : mR} (hh : aHp h) (hn : hI h 3 3 = n) : ∀ (c k : Nat) (H : Int64) , k + c = 10 → (∀ Z : Option Value, nRn sc (d + 6) (mMT mMe120) (mMC mMe120) (18, [some (.ref 0), some (.long (dgL (cX h n) c k H)), none, Z], [], h) r) → nRn sc (d + 6) (mMT mMe120) (mMC mMe120) (4, [some (.ref 0), some (.long H), none, some (sI ((k : Int)))], [], h) r := by
  intro c
  induction c with
  | zero =>
    intro k H hk hr
    refine sP 2 (g1 := (6, [some (.ref 0), some (.long H), none, some (sI ((k : Int)))], [sI 9, sI ((k : Int))], h)) rfl ?_
    refine s_icmp (q := .gt) (a := (k : Int)) (b := 9) rfl ⟨_, rfl⟩ rfl (by unfold sR aMi aMa; omega) (by unfold sR aMi aMa; omega) (fun hc1 => ?_) (fun hc1 => ?_)
    · have hc1 : (9 : Int) < ((k : Int)) := hc1
      exact hr _
    · have hc1 : ¬ ((9 : Int) < ((k : Int))) := hc1
      omega
  | succ c ih =>
    intro k H hk hr
    refine sP 2 (g1 := (6, [some (.ref 0), some (.long H), none, some (sI ((k : Int)))], [sI 9, sI ((k : Int))], h)) rfl ?_
    refine s_icmp (q := .gt) (a := (k : Int)) (b := 9) rfl ⟨_, rfl⟩ rfl (by unfold sR aMi aMa; omega) (by unfold sR aMi aMa; omega) (fun hc1 => ?_) (fun hc1 => ?_)
    · have hc1 : (9 : Int) < ((k : Int)) := hc1
      omega
    · have hc1 : ¬ ((9 : Int) < ((k : Int))) := hc1
      refine sP 2 (g1 := (9, [some (.ref 0), some (.long H), none, some (sI ((k : Int)))], [.long H, sJ 31], h)) rfl ?_
      refine s_b2 (w := Int64.ofInt 31 * H) rfl rfl rfl ?_
      refine sP 2 (g1 := (12, [some (.ref 0), some (.long H), none, some (sI ((k : Int)))], [sI ((k : Int)), .ref 0, .long (Int64.ofInt 31 * H)], h)) rfl ?_
      refine s_call (k := 114) (args := [.ref 0, sI ((k : Int))]) (st := [.long (Int64.ofInt 31 * H)]) (v := some (sI (cX h n k))) (h1 := h) rfl ⟨rfl, rfl⟩ rfl rfl rfl rfl (sRcv hh (a := 0) rfl rfl) rfl (fHm hh hn (by omega)) ?_
      refine s_i2lr rfl rfl ?_
      refine s_b2 (w := dg H (cX h n k)) rfl rfl rfl ?_
      refine sP 1 (g1 := (16, [some (.ref 0), some (.long (dg H (cX h n k))), none, some (sI ((k : Int)))], [], h)) rfl ?_
      refine s_inc (a := (k : Int)) (n := 1) (k := 3) rfl rfl rfl ?_
      refine sP 1 (g1 := (4, [some (.ref 0), some (.long (dg H (cX h n k))), none, some (sI (((k : Int)) + 1))], [], h)) rfl ?_
      rw [show ((k : Int) + 1) = ((k + 1 : Nat) : Int) by omega]
      exact ih (k + 1) _ (by omega) hr
theorem fDg2 {n : Nat} {r : mR} (hh : aHp h) (hn : hI h 3 3 = n) : ∀ (c k : Nat) (H : Int64) , k + c = 3 → (∀ Z : Option Value, nRn sc (d + 6) (mMT mMe120) (mMC mMe120) (49, [some (.ref 0), some (.long (dgL (fun q => if hI h (41 + 4 * q) 3 = 0 then (-1 : Int) else hI h (41 + 4 * q) 5) c k H)), none, Z], [], h) r) → nRn sc (d + 6) (mMT mMe120) (mMC mMe120) (25, [some (.ref 0), some (.long H), none, some (sI ((k : Int)))], [], h) r := by
  intro c
  induction c with
  | zero =>
    intro k H hk hr
    refine sP 2 (g1 := (27, [some (.ref 0), some (.long H), none, some (sI ((k : Int)))], [sI 3, sI ((k : Int))], h)) rfl ?_
    refine s_icmp (q := .ge) (a := (k : Int)) (b := 3) rfl ⟨_, rfl⟩ rfl (by unfold sR aMi aMa; omega) (by unfold sR aMi aMa; omega) (fun hc1 => ?_) (fun hc1 => ?_)
    · have hc1 : (3 : Int) ≤ ((k : Int)) := hc1
      exact hr _
    · have hc1 : ¬ ((3 : Int) ≤ ((k : Int))) := hc1
      omega
  | succ c ih =>
    intro k H hk hr
    refine sP 2 (g1 := (27, [some (.ref 0), some (.long H), none, some (sI ((k : Int)))], [sI 3, sI ((k : Int))], h)) rfl ?_
    refine s_icmp (q := .ge) (a := (k : Int)) (b := 3) rfl ⟨_, rfl⟩ rfl (by unfold sR aMi aMa; omega) (by unfold sR aMi aMa; omega) (fun hc1 => ?_) (fun hc1 => ?_)
    · have hc1 : (3 : Int) ≤ ((k : Int)) := hc1
      omega
    · have hc1 : ¬ ((3 : Int) ≤ ((k : Int))) := hc1
      refine sP 2 (g1 := (30, [some (.ref 0), some (.long H), none, some (sI ((k : Int)))], [.long H, sJ 31], h)) rfl ?_
      refine s_b2 (w := Int64.ofInt 31 * H) rfl rfl rfl ?_
      refine sP 1 (g1 := (32, [some (.ref 0), some (.long H), none, some (sI ((k : Int)))], [.ref 0, .long (Int64.ofInt 31 * H)], h)) rfl ?_
      refine s_get (a := 0) (j := 3) hh rfl ⟨_, rfl⟩ rfl rfl rfl (v := .ref 7) (hR_ok hh (by decide +kernel)) ?_
      refine sP 1 (g1 := (34, [some (.ref 0), some (.long H), none, some (sI ((k : Int)))], [sI ((k : Int)), .ref 7, .long (Int64.ofInt 31 * H)], h)) rfl ?_
      refine s_aald (a := 7) (n := 3) (j := (k : Int)) hh rfl rfl rfl (by decide) (by omega) (by omega) (by decide) (v := .ref (41 + 4 * k)) (by rw [Int.toNat_natCast]; exact hR_ok hh (ka_r (by omega))) ?_
      have rg2 := hI_rg hh (ke_3 (k := k) (by omega))
      refine s_get (a := 41 + 4 * k) (j := 3) hh rfl ⟨_, rfl⟩ (ke_t (by omega)) rfl rfl (v := sI (hI h (41 + 4 * k) 3)) (hI_ok hh (ke_3 (by omega))) ?_
      refine s_ifc (q := .ne) (a := hI h (41 + 4 * k) 3) rfl ⟨_, rfl⟩ rfl (by unfold sR aMi aMa; omega) (fun hc3 => ?_) (fun hc3 => ?_)
      · have hc3 : ((hI h (41 + 4 * k) 3) : Int) ≠ 0 := hc3
        refine sP 1 (g1 := (40, [some (.ref 0), some (.long H), none, some (sI ((k : Int)))], [.ref 0, .long (Int64.ofInt 31 * H)], h)) rfl ?_
        refine s_get (a := 0) (j := 3) hh rfl ⟨_, rfl⟩ rfl rfl rfl (v := .ref 7) (hR_ok hh (by decide +kernel)) ?_
        refine sP 1 (g1 := (42, [some (.ref 0), some (.long H), none, some (sI ((k : Int)))], [sI ((k : Int)), .ref 7, .long (Int64.ofInt 31 * H)], h)) rfl ?_
        refine s_aald (a := 7) (n := 3) (j := (k : Int)) hh rfl rfl rfl (by decide) (by omega) (by omega) (by decide) (v := .ref (41 + 4 * k)) (by rw [Int.toNat_natCast]; exact hR_ok hh (ka_r (by omega))) ?_
        have rg4 := hI_rg hh (ke_5 (k := k) (by omega))
        refine s_get (a := 41 + 4 * k) (j := 5) hh rfl ⟨_, rfl⟩ (ke_t (by omega)) rfl rfl (v := sI (hI h (41 + 4 * k) 5)) (hI_ok hh (ke_5 (by omega))) ?_
        have ev44 : (hI h (41 + 4 * k) 5 : Int) = (fun q => if hI h (41 + 4 * q) 3 = 0 then (-1 : Int) else hI h (41 + 4 * q) 5) k := by
          show _ = if hI h (41 + 4 * k) 3 = 0 then (-1 : Int) else _
          rw [if_neg (by omega)]
        rw [ev44]
        refine s_i2lr rfl rfl ?_
        refine s_b2 (w := dg H (((fun q => if hI h (41 + 4 * q) 3 = 0 then (-1 : Int) else hI h (41 + 4 * q) 5) k))) rfl rfl rfl ?_
        refine sP 1 (g1 := (47, [some (.ref 0), some (.long (dg H (((fun q => if hI h (41 + 4 * q) 3 = 0 then (-1 : Int) else hI h (41 + 4 * q) 5) k)))), none, some (sI ((k : Int)))], [], h)) rfl ?_
        refine s_inc (a := (k : Int)) (n := 1) (k := 3) rfl rfl rfl ?_
        refine sP 1 (g1 := (25, [some (.ref 0), some (.long (dg H (((fun q => if hI h (41 + 4 * q) 3 = 0 then (-1 : Int) else hI h (41 + 4 * q) 5) k)))), none, some (sI (((k : Int)) + 1))], [], h)) rfl ?_
        rw [show ((k : Int) + 1) = ((k + 1 : Nat) : Int) by omega]
        exact ih (k + 1) _ (by omega) hr
      · have hc3 : ¬ (((hI h (41 + 4 * k) 3) : Int) ≠ 0) := hc3
        refine sP 2 (g1 := (44, [some (.ref 0), some (.long H), none, some (sI ((k : Int)))], [sI ((-1)), .long (Int64.ofInt 31 * H)], h)) rfl ?_
        have ev44 : ((-1) : Int) = (fun q => if hI h (41 + 4 * q) 3 = 0 then (-1 : Int) else hI h (41 + 4 * q) 5) k := by
          show _ = if hI h (41 + 4 * k) 3 = 0 then (-1 : Int) else _
          rw [if_pos (by omega)]
        rw [ev44]
        refine s_i2lr rfl rfl ?_
        refine s_b2 (w := dg H (((fun q => if hI h (41 + 4 * q) 3 = 0 then (-1 : Int) else hI h (41 + 4 * q) 5) k))) rfl rfl rfl ?_
        refine sP 1 (g1 := (47, [some (.ref 0), some (.long (dg H (((fun q => if hI h (41 + 4 * q) 3 = 0 then (-1 : Int) else hI h (41 + 4 * q) 5) k)))), none, some (sI ((k : Int)))], [], h)) rfl ?_
        refine s_inc (a := (k : Int)) (n := 1) (k := 3) rfl rfl rfl ?_
        refine sP 1 (g1 := (25, [some (.ref 0), some (.long (dg H (((fun q => if hI h (41 + 4 * q) 3 = 0 then (-1 : Int) else hI h (41 + 4 * q) 5) k)))), none, some (sI (((k : Int)) + 1))], [], h)) rfl ?_
        rw [show ((k : Int) + 1) = ((k + 1 : Nat) : Int) by omega]
        exact ih (k + 1) _ (by omega) hr
theorem fDg3 {n : Nat} {r : mR} (hh : aHp h) (hn : hI h 3 3 = n) : ∀ (c k : Nat) (H : Int64) , k + c = 6 → (∀ Z : Option Value, nRn sc (d + 6) (mMT mMe120) (mMC mMe120) (63, [some (.ref 0), some (.long (dgR (fun q => hI h (21 + 2 * q) 1) (fun q => hI h (22 + 2 * q)) c k H)), none, Z], [], h) r) → nRn sc (d + 6) (mMT mMe120) (mMC mMe120) (51, [some (.ref 0), some (.long H), none, some (sI ((k : Int)))], [], h) r := by
  intro c
  induction c with
  | zero =>
    intro k H hk hr
    refine sP 2 (g1 := (53, [some (.ref 0), some (.long H), none, some (sI ((k : Int)))], [sI 6, sI ((k : Int))], h)) rfl ?_
    refine s_icmp (q := .ge) (a := (k : Int)) (b := 6) rfl ⟨_, rfl⟩ rfl (by unfold sR aMi aMa; omega) (by unfold sR aMi aMa; omega) (fun hc1 => ?_) (fun hc1 => ?_)
    · have hc1 : (6 : Int) ≤ ((k : Int)) := hc1
      exact hr _
    · have hc1 : ¬ ((6 : Int) ≤ ((k : Int))) := hc1
      omega
  | succ c ih =>
    intro k H hk hr
    refine sP 2 (g1 := (53, [some (.ref 0), some (.long H), none, some (sI ((k : Int)))], [sI 6, sI ((k : Int))], h)) rfl ?_
    refine s_icmp (q := .ge) (a := (k : Int)) (b := 6) rfl ⟨_, rfl⟩ rfl (by unfold sR aMi aMa; omega) (by unfold sR aMi aMa; omega) (fun hc1 => ?_) (fun hc1 => ?_)
    · have hc1 : (6 : Int) ≤ ((k : Int)) := hc1
      omega
    · have hc1 : ¬ ((6 : Int) ≤ ((k : Int))) := hc1
      refine sP 1 (g1 := (55, [some (.ref 0), some (.long H), none, some (sI ((k : Int)))], [.ref 0], h)) rfl ?_
      refine s_get (a := 0) (j := 0) hh rfl ⟨_, rfl⟩ rfl rfl rfl (v := .ref 1) (hR_ok hh (by decide +kernel)) ?_
      refine sP 1 (g1 := (57, [some (.ref 0), some (.long H), none, some (sI ((k : Int)))], [sI ((k : Int)), .ref 1], h)) rfl ?_
      refine s_aald (a := 1) (n := 6) (j := (k : Int)) hh rfl rfl rfl (by decide) (by omega) (by omega) (by decide) (v := .ref (21 + 2 * k)) (by rw [Int.toNat_natCast]; exact hR_ok hh (ra_q (by omega))) ?_
      refine sP 1 (g1 := (59, [some (.ref 0), some (.long H), none, some (sI ((k : Int)))], [.long H, .ref (21 + 2 * k)], h)) rfl ?_
      refine s_call (k := 122) (args := [.ref (21 + 2 * k), .long H]) (st := []) (v := some (.long (dgL (hI h (22 + 2 * k)) (hI h (21 + 2 * k) 1).toNat 0 (dg H (hI h (21 + 2 * k) 1))))) (h1 := h) rfl ⟨rfl, rfl⟩ rfl rfl rfl rfl (sRcv hh (ra_t (show k < 6 by omega)) rfl) rfl (fDgR hh (by omega)) ?_
      refine sP 1 (g1 := (61, [some (.ref 0), some (.long (dgL (hI h (22 + 2 * k)) (hI h (21 + 2 * k) 1).toNat 0 (dg H (hI h (21 + 2 * k) 1)))), none, some (sI ((k : Int)))], [], h)) rfl ?_
      refine s_inc (a := (k : Int)) (n := 1) (k := 3) rfl rfl rfl ?_
      refine sP 1 (g1 := (51, [some (.ref 0), some (.long (dgL (hI h (22 + 2 * k)) (hI h (21 + 2 * k) 1).toNat 0 (dg H (hI h (21 + 2 * k) 1)))), none, some (sI (((k : Int)) + 1))], [], h)) rfl ?_
      rw [show ((k : Int) + 1) = ((k + 1 : Nat) : Int) by omega]
      exact ih (k + 1) _ (by omega) hr
theorem fDg4 {n : Nat} {r : mR} (hh : aHp h) (hn : hI h 3 3 = n) : ∀ (c k : Nat) (H : Int64) , k + c = 4 → (∀ Z : Option Value, nRn sc (d + 6) (mMT mMe120) (mMC mMe120) (77, [some (.ref 0), some (.long (dgR (fun q => hI h (33 + 2 * q) 1) (fun q => hI h (34 + 2 * q)) c k H)), none, Z], [], h) r) → nRn sc (d + 6) (mMT mMe120) (mMC mMe120) (65, [some (.ref 0), some (.long H), none, some (sI ((k : Int)))], [], h) r := by
  intro c
  induction c with
  | zero =>
    intro k H hk hr
    refine sP 2 (g1 := (67, [some (.ref 0), some (.long H), none, some (sI ((k : Int)))], [sI 4, sI ((k : Int))], h)) rfl ?_
    refine s_icmp (q := .ge) (a := (k : Int)) (b := 4) rfl ⟨_, rfl⟩ rfl (by unfold sR aMi aMa; omega) (by unfold sR aMi aMa; omega) (fun hc1 => ?_) (fun hc1 => ?_)
    · have hc1 : (4 : Int) ≤ ((k : Int)) := hc1
      exact hr _
    · have hc1 : ¬ ((4 : Int) ≤ ((k : Int))) := hc1
      omega
  | succ c ih =>
    intro k H hk hr
    refine sP 2 (g1 := (67, [some (.ref 0), some (.long H), none, some (sI ((k : Int)))], [sI 4, sI ((k : Int))], h)) rfl ?_
    refine s_icmp (q := .ge) (a := (k : Int)) (b := 4) rfl ⟨_, rfl⟩ rfl (by unfold sR aMi aMa; omega) (by unfold sR aMi aMa; omega) (fun hc1 => ?_) (fun hc1 => ?_)
    · have hc1 : (4 : Int) ≤ ((k : Int)) := hc1
      omega
    · have hc1 : ¬ ((4 : Int) ≤ ((k : Int))) := hc1
      refine sP 1 (g1 := (69, [some (.ref 0), some (.long H), none, some (sI ((k : Int)))], [.ref 0], h)) rfl ?_
      refine s_get (a := 0) (j := 1) hh rfl ⟨_, rfl⟩ rfl rfl rfl (v := .ref 2) (hR_ok hh (by decide +kernel)) ?_
      refine sP 1 (g1 := (71, [some (.ref 0), some (.long H), none, some (sI ((k : Int)))], [sI ((k : Int)), .ref 2], h)) rfl ?_
      refine s_aald (a := 2) (n := 4) (j := (k : Int)) hh rfl rfl rfl (by decide) (by omega) (by omega) (by decide) (v := .ref (33 + 2 * k)) (by rw [Int.toNat_natCast]; exact hR_ok hh (tx_t (by omega))) ?_
      refine sP 1 (g1 := (73, [some (.ref 0), some (.long H), none, some (sI ((k : Int)))], [.long H, .ref (33 + 2 * k)], h)) rfl ?_
      refine s_call (k := 123) (args := [.ref (33 + 2 * k), .long H]) (st := []) (v := some (.long (dgL (hI h (34 + 2 * k)) (hI h (33 + 2 * k) 1).toNat 0 (dg H (hI h (33 + 2 * k) 1))))) (h1 := h) rfl ⟨rfl, rfl⟩ rfl rfl rfl rfl (sRcv hh (tx_a (show k < 4 by omega)) rfl) rfl (fDgT hh (by omega)) ?_
      refine sP 1 (g1 := (75, [some (.ref 0), some (.long (dgL (hI h (34 + 2 * k)) (hI h (33 + 2 * k) 1).toNat 0 (dg H (hI h (33 + 2 * k) 1)))), none, some (sI ((k : Int)))], [], h)) rfl ?_
      refine s_inc (a := (k : Int)) (n := 1) (k := 3) rfl rfl rfl ?_
      refine sP 1 (g1 := (65, [some (.ref 0), some (.long (dgL (hI h (34 + 2 * k)) (hI h (33 + 2 * k) 1).toNat 0 (dg H (hI h (33 + 2 * k) 1)))), none, some (sI (((k : Int)) + 1))], [], h)) rfl ?_
      rw [show ((k : Int) + 1) = ((k + 1 : Nat) : Int) by omega]
      exact ih (k + 1) _ (by omega) hr
theorem fDgX {n : Nat} (hh : aHp h) (hn : hI h 3 3 = n) : nEv sc (d + 7) 120 [.ref 0] h (some (.long (dgR (fun q => hI h (33 + 2 * q) 1) (fun q => hI h (34 + 2 * q)) 4 0 (dgR (fun q => hI h (21 + 2 * q) 1) (fun q => hI h (22 + 2 * q)) 6 0 (dgL (fun q => if hI h (41 + 4 * q) 3 = 0 then (-1 : Int) else hI h (41 + 4 * q) 5) 3 0 (dgP (aX9 h n) (fun a b => hI h 5 (6 * a + b)) n n 0 (dgL (cX h n) 10 0 (Int64.ofInt 17))))))), h) := by
  refine nEv_of (t := mMe120) rfl ?_
  show nRn sc (d + 6) (mMT mMe120) (mMC mMe120) (0, [some (.ref 0), none, none, none], [], h) _
  refine sP 4 (g1 := (4, [some (.ref 0), some (sJ 17), none, some (sI 0)], [], h)) rfl ?_
  refine fDg1 hh hn 10 0 _ (by omega) (fun Z0 => ?_)
  refine sP 1 (g1 := (19, [some (.ref 0), some (.long (dgL (cX h n) 10 0 (Int64.ofInt 17))), none, Z0], [.ref 0], h)) rfl ?_
  refine s_get (a := 0) (j := 2) hh rfl ⟨_, rfl⟩ rfl rfl rfl (v := .ref 3) (hR_ok hh (by decide +kernel)) ?_
  refine sP 1 (g1 := (21, [some (.ref 0), some (.long (dgL (cX h n) 10 0 (Int64.ofInt 17))), none, Z0], [.long (dgL (cX h n) 10 0 (Int64.ofInt 17)), .ref 3], h)) rfl ?_
  refine s_call (k := 121) (args := [.ref 3, .long (dgL (cX h n) 10 0 (Int64.ofInt 17))]) (st := []) (v := some (.long (dgP (aX9 h n) (fun a b => hI h 5 (6 * a + b)) n n 0 (dgL (cX h n) 10 0 (Int64.ofInt 17))))) (h1 := h) rfl ⟨rfl, rfl⟩ rfl rfl rfl rfl (sRcv hh (a := 3) rfl rfl) rfl (fDgEm hh hn) ?_
  refine sP 3 (g1 := (25, [some (.ref 0), some (.long (dgP (aX9 h n) (fun a b => hI h 5 (6 * a + b)) n n 0 (dgL (cX h n) 10 0 (Int64.ofInt 17)))), none, some (sI 0)], [], h)) rfl ?_
  refine fDg2 (n := n) hh hn 3 0 _ (by omega) (fun Z1 => ?_)
  refine sP 2 (g1 := (51, [some (.ref 0), some (.long (dgL (fun q => if hI h (41 + 4 * q) 3 = 0 then (-1 : Int) else hI h (41 + 4 * q) 5) 3 0 (dgP (aX9 h n) (fun a b => hI h 5 (6 * a + b)) n n 0 (dgL (cX h n) 10 0 (Int64.ofInt 17))))), none, some (sI 0)], [], h)) rfl ?_
  refine fDg3 (n := n) hh hn 6 0 _ (by omega) (fun Z2 => ?_)
  refine sP 2 (g1 := (65, [some (.ref 0), some (.long (dgR (fun q => hI h (21 + 2 * q) 1) (fun q => hI h (22 + 2 * q)) 6 0 (dgL (fun q => if hI h (41 + 4 * q) 3 = 0 then (-1 : Int) else hI h (41 + 4 * q) 5) 3 0 (dgP (aX9 h n) (fun a b => hI h 5 (6 * a + b)) n n 0 (dgL (cX h n) 10 0 (Int64.ofInt 17)))))), none, some (sI 0)], [], h)) rfl ?_
  refine fDg4 (n := n) hh hn 4 0 _ (by omega) (fun Z3 => ?_)
  refine sP 1 (g1 := (78, [some (.ref 0), some (.long (dgR (fun q => hI h (33 + 2 * q) 1) (fun q => hI h (34 + 2 * q)) 4 0 (dgR (fun q => hI h (21 + 2 * q) 1) (fun q => hI h (22 + 2 * q)) 6 0 (dgL (fun q => if hI h (41 + 4 * q) 3 = 0 then (-1 : Int) else hI h (41 + 4 * q) 5) 3 0 (dgP (aX9 h n) (fun a b => hI h 5 (6 * a + b)) n n 0 (dgL (cX h n) 10 0 (Int64.ofInt 17))))))), none, Z3], [.long (dgR (fun q => hI h (33 + 2 * q) 1) (fun q => hI h (34 + 2 * q)) 4 0 (dgR (fun q => hI h (21 + 2 * q) 1) (fun q => hI h (22 + 2 * q)) 6 0 (dgL (fun q => if hI h (41 + 4 * q) 3 = 0 then (-1 : Int) else hI h (41 + 4 * q) 5) 3 0 (dgP (aX9 h n) (fun a b => hI h 5 (6 * a + b)) n n 0 (dgL (cX h n) 10 0 (Int64.ofInt 17))))))], h)) rfl ?_
  exact s_ret rfl rfl
theorem kk_80 {k : Nat} (hk : k < 3) : zCell 60 (201 * k + 80) 0 40 = true := (show ∀ k, k < 3 → zCell 60 (201 * k + 80) 0 40 = true by decide +kernel) k hk
theorem fDm1 {n : Nat} {r : mR} (hh : aHp h) (hn : hI h 58 0 = n) : ∀ (c k : Nat) (H : Int64) (X : Option Value) , k + c = 10 → (∀ X Z : Option Value, nRn sc (d + 6) (mMT mMe220) (mMC mMe220) (18, [some (.ref 53), some (.long (dgL (cM h n) c k H)), none, Z, X], [], h) r) → nRn sc (d + 6) (mMT mMe220) (mMC mMe220) (4, [some (.ref 53), some (.long H), none, some (sI ((k : Int))), X], [], h) r := by
  intro c
  induction c with
  | zero =>
    intro k H X hk hr
    refine sP 2 (g1 := (6, [some (.ref 53), some (.long H), none, some (sI ((k : Int))), X], [sI 10, sI ((k : Int))], h)) rfl ?_
    refine s_icmp (q := .ge) (a := (k : Int)) (b := 10) rfl ⟨_, rfl⟩ rfl (by unfold sR aMi aMa; omega) (by unfold sR aMi aMa; omega) (fun hc1 => ?_) (fun hc1 => ?_)
    · have hc1 : (10 : Int) ≤ ((k : Int)) := hc1
      exact hr _ _
    · have hc1 : ¬ ((10 : Int) ≤ ((k : Int))) := hc1
      omega
  | succ c ih =>
    intro k H X hk hr
    refine sP 2 (g1 := (6, [some (.ref 53), some (.long H), none, some (sI ((k : Int))), X], [sI 10, sI ((k : Int))], h)) rfl ?_
    refine s_icmp (q := .ge) (a := (k : Int)) (b := 10) rfl ⟨_, rfl⟩ rfl (by unfold sR aMi aMa; omega) (by unfold sR aMi aMa; omega) (fun hc1 => ?_) (fun hc1 => ?_)
    · have hc1 : (10 : Int) ≤ ((k : Int)) := hc1
      omega
    · have hc1 : ¬ ((10 : Int) ≤ ((k : Int))) := hc1
      refine sP 2 (g1 := (9, [some (.ref 53), some (.long H), none, some (sI ((k : Int))), X], [.long H, sJ 31], h)) rfl ?_
      refine s_b2 (w := Int64.ofInt 31 * H) rfl rfl rfl ?_
      refine sP 2 (g1 := (12, [some (.ref 53), some (.long H), none, some (sI ((k : Int))), X], [sI ((k : Int)), .ref 53, .long (Int64.ofInt 31 * H)], h)) rfl ?_
      refine s_call (k := 217) (args := [.ref 53, sI ((k : Int))]) (st := [.long (Int64.ofInt 31 * H)]) (v := some (sI (cM h n k))) (h1 := h) rfl ⟨rfl, rfl⟩ rfl rfl rfl rfl (sRcv hh (a := 53) rfl rfl) rfl (fCm hh hn (by omega)) ?_
      refine s_i2lr rfl rfl ?_
      refine s_b2 (w := dg H (cM h n k)) rfl rfl rfl ?_
      refine sP 1 (g1 := (16, [some (.ref 53), some (.long (dg H (cM h n k))), none, some (sI ((k : Int))), X], [], h)) rfl ?_
      refine s_inc (a := (k : Int)) (n := 1) (k := 3) rfl rfl rfl ?_
      refine sP 1 (g1 := (4, [some (.ref 53), some (.long (dg H (cM h n k))), none, some (sI (((k : Int)) + 1)), X], [], h)) rfl ?_
      rw [show ((k : Int) + 1) = ((k + 1 : Nat) : Int) by omega]
      exact ih (k + 1) _ _ (by omega) hr
theorem fDmA {a : Nat} {n : Nat} {r : mR} (hh : aHp h) (hn : hI h 58 0 = n) (ha : a < 6) : ∀ (c k : Nat) (H : Int64) , k + c = 5 → (∀ Z : Option Value, nRn sc (d + 6) (mMT mMe220) (mMC mMe220) (43, [some (.ref 53), some (.long (dgL (aM9 h n a) c k H)), none, some (sI ((a : Int))), Z], [], h) r) → nRn sc (d + 6) (mMT mMe220) (mMC mMe220) (28, [some (.ref 53), some (.long H), none, some (sI ((a : Int))), some (sI ((k : Int)))], [], h) r := by
  intro c
  induction c with
  | zero =>
    intro k H hk hr
    refine sP 2 (g1 := (30, [some (.ref 53), some (.long H), none, some (sI ((a : Int))), some (sI ((k : Int)))], [sI 5, sI ((k : Int))], h)) rfl ?_
    refine s_icmp (q := .ge) (a := (k : Int)) (b := 5) rfl ⟨_, rfl⟩ rfl (by unfold sR aMi aMa; omega) (by unfold sR aMi aMa; omega) (fun hc1 => ?_) (fun hc1 => ?_)
    · have hc1 : (5 : Int) ≤ ((k : Int)) := hc1
      exact hr _
    · have hc1 : ¬ ((5 : Int) ≤ ((k : Int))) := hc1
      omega
  | succ c ih =>
    intro k H hk hr
    refine sP 2 (g1 := (30, [some (.ref 53), some (.long H), none, some (sI ((a : Int))), some (sI ((k : Int)))], [sI 5, sI ((k : Int))], h)) rfl ?_
    refine s_icmp (q := .ge) (a := (k : Int)) (b := 5) rfl ⟨_, rfl⟩ rfl (by unfold sR aMi aMa; omega) (by unfold sR aMi aMa; omega) (fun hc1 => ?_) (fun hc1 => ?_)
    · have hc1 : (5 : Int) ≤ ((k : Int)) := hc1
      omega
    · have hc1 : ¬ ((5 : Int) ≤ ((k : Int))) := hc1
      refine sP 2 (g1 := (33, [some (.ref 53), some (.long H), none, some (sI ((a : Int))), some (sI ((k : Int)))], [.long H, sJ 31], h)) rfl ?_
      refine s_b2 (w := Int64.ofInt 31 * H) rfl rfl rfl ?_
      refine sP 3 (g1 := (37, [some (.ref 53), some (.long H), none, some (sI ((a : Int))), some (sI ((k : Int)))], [sI ((k : Int)), sI ((a : Int)), .ref 53, .long (Int64.ofInt 31 * H)], h)) rfl ?_
      refine s_call (k := 148) (args := [.ref 53, sI ((a : Int)), sI ((k : Int))]) (st := [.long (Int64.ofInt 31 * H)]) (v := some (sI (aM9 h n a k))) (h1 := h) rfl ⟨rfl, rfl⟩ rfl rfl rfl rfl (sRcv hh (a := 53) rfl rfl) rfl (fTd hh hn ha (by omega)) ?_
      refine s_i2lr rfl rfl ?_
      refine s_b2 (w := dg H (aM9 h n a k)) rfl rfl rfl ?_
      refine sP 1 (g1 := (41, [some (.ref 53), some (.long (dg H (aM9 h n a k))), none, some (sI ((a : Int))), some (sI ((k : Int)))], [], h)) rfl ?_
      refine s_inc (a := (k : Int)) (n := 1) (k := 4) rfl rfl rfl ?_
      refine sP 1 (g1 := (28, [some (.ref 53), some (.long (dg H (aM9 h n a k))), none, some (sI ((a : Int))), some (sI (((k : Int)) + 1))], [], h)) rfl ?_
      rw [show ((k : Int) + 1) = ((k + 1 : Nat) : Int) by omega]
      exact ih (k + 1) _ (by omega) hr
theorem fDmB {a : Nat} {n : Nat} {r : mR} (hh : aHp h) (hn : hI h 58 0 = n) (ha : a < 6) : ∀ (c k : Nat) (H : Int64) , k + c = n → (∀ Z : Option Value, nRn sc (d + 6) (mMT mMe220) (mMC mMe220) (63, [some (.ref 53), some (.long (dgL (fun b => hI h 58 (7 + (6 * a + b))) c k H)), none, some (sI ((a : Int))), Z], [], h) r) → nRn sc (d + 6) (mMT mMe220) (mMC mMe220) (45, [some (.ref 53), some (.long H), none, some (sI ((a : Int))), some (sI ((k : Int)))], [], h) r := by
  have gp := hI_rg hh nw_p
  intro c
  induction c with
  | zero =>
    intro k H hk hr
    refine sP 2 (g1 := (47, [some (.ref 53), some (.long H), none, some (sI ((a : Int))), some (sI ((k : Int)))], [.ref 53, sI ((k : Int))], h)) rfl ?_
    refine s_get (a := 53) (j := 4) hh rfl ⟨_, rfl⟩ rfl rfl rfl (v := .ref 58) (hR_ok hh (by decide +kernel)) ?_
    refine sP 1 (g1 := (49, [some (.ref 53), some (.long H), none, some (sI ((a : Int))), some (sI ((k : Int)))], [sI 0, .ref 58, sI ((k : Int))], h)) rfl ?_
    refine s_iald (a := 58) (n := 201) (j := 0) hh rfl rfl rfl (by omega) (by omega) (by decide) (v := sI ((n : Int))) (by have q := hI_ok hh nw_p; rw [hn] at q; exact q) ?_
    refine s_icmp (q := .ge) (a := (k : Int)) (b := (n : Int)) rfl ⟨_, rfl⟩ rfl (by unfold sR aMi aMa; omega) (by unfold sR aMi aMa; omega) (fun hc1 => ?_) (fun hc1 => ?_)
    · have hc1 : (((n : Int)) : Int) ≤ ((k : Int)) := hc1
      exact hr _
    · have hc1 : ¬ ((((n : Int)) : Int) ≤ ((k : Int))) := hc1
      omega
  | succ c ih =>
    intro k H hk hr
    refine sP 2 (g1 := (47, [some (.ref 53), some (.long H), none, some (sI ((a : Int))), some (sI ((k : Int)))], [.ref 53, sI ((k : Int))], h)) rfl ?_
    refine s_get (a := 53) (j := 4) hh rfl ⟨_, rfl⟩ rfl rfl rfl (v := .ref 58) (hR_ok hh (by decide +kernel)) ?_
    refine sP 1 (g1 := (49, [some (.ref 53), some (.long H), none, some (sI ((a : Int))), some (sI ((k : Int)))], [sI 0, .ref 58, sI ((k : Int))], h)) rfl ?_
    refine s_iald (a := 58) (n := 201) (j := 0) hh rfl rfl rfl (by omega) (by omega) (by decide) (v := sI ((n : Int))) (by have q := hI_ok hh nw_p; rw [hn] at q; exact q) ?_
    refine s_icmp (q := .ge) (a := (k : Int)) (b := (n : Int)) rfl ⟨_, rfl⟩ rfl (by unfold sR aMi aMa; omega) (by unfold sR aMi aMa; omega) (fun hc1 => ?_) (fun hc1 => ?_)
    · have hc1 : (((n : Int)) : Int) ≤ ((k : Int)) := hc1
      omega
    · have hc1 : ¬ ((((n : Int)) : Int) ≤ ((k : Int))) := hc1
      refine sP 2 (g1 := (53, [some (.ref 53), some (.long H), none, some (sI ((a : Int))), some (sI ((k : Int)))], [.long H, sJ 31], h)) rfl ?_
      refine s_b2 (w := Int64.ofInt 31 * H) rfl rfl rfl ?_
      refine sP 3 (g1 := (57, [some (.ref 53), some (.long H), none, some (sI ((a : Int))), some (sI ((k : Int)))], [sI ((k : Int)), sI ((a : Int)), .ref 53, .long (Int64.ofInt 31 * H)], h)) rfl ?_
      refine s_call (k := 152) (args := [.ref 53, sI ((a : Int)), sI ((k : Int))]) (st := [.long (Int64.ofInt 31 * H)]) (v := some (sI (hI h 58 (7 + (6 * a + k))))) (h1 := h) rfl ⟨rfl, rfl⟩ rfl rfl rfl rfl (sRcv hh (a := 53) rfl rfl) rfl (fLookM hh ha (by omega)) ?_
      refine s_i2lr rfl rfl ?_
      refine s_b2 (w := dg H (hI h 58 (7 + (6 * a + k)))) rfl rfl rfl ?_
      refine sP 1 (g1 := (61, [some (.ref 53), some (.long (dg H (hI h 58 (7 + (6 * a + k))))), none, some (sI ((a : Int))), some (sI ((k : Int)))], [], h)) rfl ?_
      refine s_inc (a := (k : Int)) (n := 1) (k := 4) rfl rfl rfl ?_
      refine sP 1 (g1 := (45, [some (.ref 53), some (.long (dg H (hI h 58 (7 + (6 * a + k))))), none, some (sI ((a : Int))), some (sI (((k : Int)) + 1))], [], h)) rfl ?_
      rw [show ((k : Int) + 1) = ((k + 1 : Nat) : Int) by omega]
      exact ih (k + 1) _ (by omega) hr
theorem fDm2 {n : Nat} {r : mR} (hh : aHp h) (hn : hI h 58 0 = n) : ∀ (c k : Nat) (H : Int64) (X : Option Value) , k + c = n → (∀ X Z : Option Value, nRn sc (d + 6) (mMT mMe220) (mMC mMe220) (65, [some (.ref 53), some (.long (dgP (aM9 h n) (fun a b => hI h 58 (7 + (6 * a + b))) n c k H)), none, Z, X], [], h) r) → nRn sc (d + 6) (mMT mMe220) (mMC mMe220) (20, [some (.ref 53), some (.long H), none, some (sI ((k : Int))), X], [], h) r := by
  have gp := hI_rg hh nw_p
  intro c
  induction c with
  | zero =>
    intro k H X hk hr
    refine sP 2 (g1 := (22, [some (.ref 53), some (.long H), none, some (sI ((k : Int))), X], [.ref 53, sI ((k : Int))], h)) rfl ?_
    refine s_get (a := 53) (j := 4) hh rfl ⟨_, rfl⟩ rfl rfl rfl (v := .ref 58) (hR_ok hh (by decide +kernel)) ?_
    refine sP 1 (g1 := (24, [some (.ref 53), some (.long H), none, some (sI ((k : Int))), X], [sI 0, .ref 58, sI ((k : Int))], h)) rfl ?_
    refine s_iald (a := 58) (n := 201) (j := 0) hh rfl rfl rfl (by omega) (by omega) (by decide) (v := sI ((n : Int))) (by have q := hI_ok hh nw_p; rw [hn] at q; exact q) ?_
    refine s_icmp (q := .ge) (a := (k : Int)) (b := (n : Int)) rfl ⟨_, rfl⟩ rfl (by unfold sR aMi aMa; omega) (by unfold sR aMi aMa; omega) (fun hc1 => ?_) (fun hc1 => ?_)
    · have hc1 : (((n : Int)) : Int) ≤ ((k : Int)) := hc1
      exact hr _ _
    · have hc1 : ¬ ((((n : Int)) : Int) ≤ ((k : Int))) := hc1
      omega
  | succ c ih =>
    intro k H X hk hr
    refine sP 2 (g1 := (22, [some (.ref 53), some (.long H), none, some (sI ((k : Int))), X], [.ref 53, sI ((k : Int))], h)) rfl ?_
    refine s_get (a := 53) (j := 4) hh rfl ⟨_, rfl⟩ rfl rfl rfl (v := .ref 58) (hR_ok hh (by decide +kernel)) ?_
    refine sP 1 (g1 := (24, [some (.ref 53), some (.long H), none, some (sI ((k : Int))), X], [sI 0, .ref 58, sI ((k : Int))], h)) rfl ?_
    refine s_iald (a := 58) (n := 201) (j := 0) hh rfl rfl rfl (by omega) (by omega) (by decide) (v := sI ((n : Int))) (by have q := hI_ok hh nw_p; rw [hn] at q; exact q) ?_
    refine s_icmp (q := .ge) (a := (k : Int)) (b := (n : Int)) rfl ⟨_, rfl⟩ rfl (by unfold sR aMi aMa; omega) (by unfold sR aMi aMa; omega) (fun hc1 => ?_) (fun hc1 => ?_)
    · have hc1 : (((n : Int)) : Int) ≤ ((k : Int)) := hc1
      omega
    · have hc1 : ¬ ((((n : Int)) : Int) ≤ ((k : Int))) := hc1
      refine sP 2 (g1 := (28, [some (.ref 53), some (.long H), none, some (sI ((k : Int))), some (sI 0)], [], h)) rfl ?_
      refine fDmA (a := k) hh hn (by omega) 5 0 _ (by omega) (fun Z1 => ?_)
      refine sP 2 (g1 := (45, [some (.ref 53), some (.long (dgL (aM9 h n k) 5 0 H)), none, some (sI ((k : Int))), some (sI 0)], [], h)) rfl ?_
      refine fDmB (a := k) hh hn (by omega) n 0 _ (by omega) (fun Z2 => ?_)
      refine s_inc (a := (k : Int)) (n := 1) (k := 3) rfl rfl rfl ?_
      refine sP 1 (g1 := (20, [some (.ref 53), some (.long (dgL (fun b => hI h 58 (7 + (6 * k + b))) n 0 (dgL (aM9 h n k) 5 0 H))), none, some (sI (((k : Int)) + 1)), Z2], [], h)) rfl ?_
      rw [show ((k : Int) + 1) = ((k + 1 : Nat) : Int) by omega]
      exact ih (k + 1) _ _ (by omega) hr
theorem fDm3 {n : Nat} {r : mR} (hh : aHp h) (hn : hI h 58 0 = n) : ∀ (c k : Nat) (H : Int64) (X : Option Value) , k + c = 3 → (∀ X Z : Option Value, nRn sc (d + 6) (mMT mMe220) (mMC mMe220) (93, [some (.ref 53), some (.long (dgL (fun q => if hI h 61 q = 0 then (-1 : Int) else hI h 60 (201 * q + 80)) c k H)), none, Z, X], [], h) r) → nRn sc (d + 6) (mMT mMe220) (mMC mMe220) (67, [some (.ref 53), some (.long H), none, some (sI ((k : Int))), X], [], h) r := by
  intro c
  induction c with
  | zero =>
    intro k H X hk hr
    refine sP 2 (g1 := (69, [some (.ref 53), some (.long H), none, some (sI ((k : Int))), X], [sI 3, sI ((k : Int))], h)) rfl ?_
    refine s_icmp (q := .ge) (a := (k : Int)) (b := 3) rfl ⟨_, rfl⟩ rfl (by unfold sR aMi aMa; omega) (by unfold sR aMi aMa; omega) (fun hc1 => ?_) (fun hc1 => ?_)
    · have hc1 : (3 : Int) ≤ ((k : Int)) := hc1
      exact hr _ _
    · have hc1 : ¬ ((3 : Int) ≤ ((k : Int))) := hc1
      omega
  | succ c ih =>
    intro k H X hk hr
    refine sP 2 (g1 := (69, [some (.ref 53), some (.long H), none, some (sI ((k : Int))), X], [sI 3, sI ((k : Int))], h)) rfl ?_
    refine s_icmp (q := .ge) (a := (k : Int)) (b := 3) rfl ⟨_, rfl⟩ rfl (by unfold sR aMi aMa; omega) (by unfold sR aMi aMa; omega) (fun hc1 => ?_) (fun hc1 => ?_)
    · have hc1 : (3 : Int) ≤ ((k : Int)) := hc1
      omega
    · have hc1 : ¬ ((3 : Int) ≤ ((k : Int))) := hc1
      refine sP 2 (g1 := (72, [some (.ref 53), some (.long H), none, some (sI ((k : Int))), X], [.long H, sJ 31], h)) rfl ?_
      refine s_b2 (w := Int64.ofInt 31 * H) rfl rfl rfl ?_
      refine sP 1 (g1 := (74, [some (.ref 53), some (.long H), none, some (sI ((k : Int))), X], [.ref 53, .long (Int64.ofInt 31 * H)], h)) rfl ?_
      refine s_get (a := 53) (j := 7) hh rfl ⟨_, rfl⟩ rfl rfl rfl (v := .ref 61) (hR_ok hh (by decide +kernel)) ?_
      refine sP 1 (g1 := (76, [some (.ref 53), some (.long H), none, some (sI ((k : Int))), X], [sI ((k : Int)), .ref 61, .long (Int64.ofInt 31 * H)], h)) rfl ?_
      have rg2 := hI_rg hh (ka_b (k := k) (by omega))
      refine s_bald (a := 61) (n := 3) (j := (k : Int)) hh rfl rfl rfl (by decide) (by omega) (by omega) (by decide) (v := sI (hI h 61 k)) (by rw [Int.toNat_natCast]; exact hI_ok hh (ka_b (by omega))) ?_
      refine s_ifc (q := .eq) (a := hI h 61 k) rfl ⟨_, rfl⟩ rfl (by unfold sR aMi aMa; omega) (fun hc3 => ?_) (fun hc3 => ?_)
      · have hc3 : ((hI h 61 k) : Int) = 0 := hc3
        refine sP 1 (g1 := (88, [some (.ref 53), some (.long H), none, some (sI ((k : Int))), X], [sI ((-1)), .long (Int64.ofInt 31 * H)], h)) rfl ?_
        have ev88 : ((-1) : Int) = (fun q => if hI h 61 q = 0 then (-1 : Int) else hI h 60 (201 * q + 80)) k := by
          show _ = if hI h 61 k = 0 then (-1 : Int) else _
          rw [if_pos (by omega)]
        rw [ev88]
        refine s_i2lr rfl rfl ?_
        refine s_b2 (w := dg H (((fun q => if hI h 61 q = 0 then (-1 : Int) else hI h 60 (201 * q + 80)) k))) rfl rfl rfl ?_
        refine sP 1 (g1 := (91, [some (.ref 53), some (.long (dg H (((fun q => if hI h 61 q = 0 then (-1 : Int) else hI h 60 (201 * q + 80)) k)))), none, some (sI ((k : Int))), X], [], h)) rfl ?_
        refine s_inc (a := (k : Int)) (n := 1) (k := 3) rfl rfl rfl ?_
        refine sP 1 (g1 := (67, [some (.ref 53), some (.long (dg H (((fun q => if hI h 61 q = 0 then (-1 : Int) else hI h 60 (201 * q + 80)) k)))), none, some (sI (((k : Int)) + 1)), X], [], h)) rfl ?_
        rw [show ((k : Int) + 1) = ((k + 1 : Nat) : Int) by omega]
        exact ih (k + 1) _ _ (by omega) hr
      · have hc3 : ¬ (((hI h 61 k) : Int) = 0) := hc3
        refine sP 1 (g1 := (79, [some (.ref 53), some (.long H), none, some (sI ((k : Int))), X], [.ref 53, .long (Int64.ofInt 31 * H)], h)) rfl ?_
        refine s_get (a := 53) (j := 6) hh rfl ⟨_, rfl⟩ rfl rfl rfl (v := .ref 60) (hR_ok hh (by decide +kernel)) ?_
        refine sP 2 (g1 := (82, [some (.ref 53), some (.long H), none, some (sI ((k : Int))), X], [sI ((k : Int)), sI 201, .ref 60, .long (Int64.ofInt 31 * H)], h)) rfl ?_
        refine s_mul (a := 201) (b := (k : Int)) rfl rfl ?_
        refine sP 1 (g1 := (84, [some (.ref 53), some (.long H), none, some (sI ((k : Int))), X], [sI 80, sI (201 * ((k : Int))), .ref 60, .long (Int64.ofInt 31 * H)], h)) rfl ?_
        refine s_add (a := 201 * ((k : Int))) (b := 80) rfl rfl ?_
        refine s_iald (a := 60) (n := 603) (j := (201 * ((k : Int))) + 80) hh rfl rfl rfl (by omega) (by omega) (by decide) (v := sI (hI h 60 (201 * k + 80))) (by rw [show ((201 * ((k : Int))) + 80 : Int).toNat = 201 * k + 80 by omega]; exact hI_ok hh (kk_80 (by omega))) ?_
        refine sP 1 (g1 := (88, [some (.ref 53), some (.long H), none, some (sI ((k : Int))), X], [sI (hI h 60 (201 * k + 80)), .long (Int64.ofInt 31 * H)], h)) rfl ?_
        have ev88 : (hI h 60 (201 * k + 80) : Int) = (fun q => if hI h 61 q = 0 then (-1 : Int) else hI h 60 (201 * q + 80)) k := by
          show _ = if hI h 61 k = 0 then (-1 : Int) else _
          rw [if_neg (by omega)]
        rw [ev88]
        refine s_i2lr rfl rfl ?_
        refine s_b2 (w := dg H (((fun q => if hI h 61 q = 0 then (-1 : Int) else hI h 60 (201 * q + 80)) k))) rfl rfl rfl ?_
        refine sP 1 (g1 := (91, [some (.ref 53), some (.long (dg H (((fun q => if hI h 61 q = 0 then (-1 : Int) else hI h 60 (201 * q + 80)) k)))), none, some (sI ((k : Int))), X], [], h)) rfl ?_
        refine s_inc (a := (k : Int)) (n := 1) (k := 3) rfl rfl rfl ?_
        refine sP 1 (g1 := (67, [some (.ref 53), some (.long (dg H (((fun q => if hI h 61 q = 0 then (-1 : Int) else hI h 60 (201 * q + 80)) k)))), none, some (sI (((k : Int)) + 1)), X], [], h)) rfl ?_
        rw [show ((k : Int) + 1) = ((k + 1 : Nat) : Int) by omega]
        exact ih (k + 1) _ _ (by omega) hr
theorem fDmR {q : Nat} {n : Nat} {r : mR} (hh : aHp h) (hn : hI h 58 0 = n) (hq : q < 6) : ∀ (c k : Nat) (H : Int64) , k + c = (hI h 54 q).toNat → (∀ Z : Option Value, nRn sc (d + 6) (mMT mMe220) (mMC mMe220) (132, [some (.ref 53), some (.long (dgL (fun j => hI h 55 (40 * q + j)) c k H)), none, some (sI ((q : Int))), Z], [], h) r) → nRn sc (d + 6) (mMT mMe220) (mMC mMe220) (110, [some (.ref 53), some (.long H), none, some (sI ((q : Int))), some (sI ((k : Int)))], [], h) r := by
  have gz := hI_rg hh (rm_z hq)
  intro c
  induction c with
  | zero =>
    intro k H hk hr
    refine sP 2 (g1 := (112, [some (.ref 53), some (.long H), none, some (sI ((q : Int))), some (sI ((k : Int)))], [.ref 53, sI ((k : Int))], h)) rfl ?_
    refine s_get (a := 53) (j := 0) hh rfl ⟨_, rfl⟩ rfl rfl rfl (v := .ref 54) (hR_ok hh (by decide +kernel)) ?_
    refine sP 1 (g1 := (114, [some (.ref 53), some (.long H), none, some (sI ((q : Int))), some (sI ((k : Int)))], [sI ((q : Int)), .ref 54, sI ((k : Int))], h)) rfl ?_
    have rg1 := hI_rg hh (rm_z (r := q) (by omega))
    refine s_iald (a := 54) (n := 6) (j := (q : Int)) hh rfl rfl rfl (by omega) (by omega) (by decide) (v := sI (hI h 54 q)) (by rw [Int.toNat_natCast]; exact hI_ok hh (rm_z (by omega))) ?_
    refine s_icmp (q := .ge) (a := (k : Int)) (b := hI h 54 q) rfl ⟨_, rfl⟩ rfl (by unfold sR aMi aMa; omega) (by unfold sR aMi aMa; omega) (fun hc2 => ?_) (fun hc2 => ?_)
    · have hc2 : ((hI h 54 q) : Int) ≤ ((k : Int)) := hc2
      exact hr _
    · have hc2 : ¬ (((hI h 54 q) : Int) ≤ ((k : Int))) := hc2
      omega
  | succ c ih =>
    intro k H hk hr
    refine sP 2 (g1 := (112, [some (.ref 53), some (.long H), none, some (sI ((q : Int))), some (sI ((k : Int)))], [.ref 53, sI ((k : Int))], h)) rfl ?_
    refine s_get (a := 53) (j := 0) hh rfl ⟨_, rfl⟩ rfl rfl rfl (v := .ref 54) (hR_ok hh (by decide +kernel)) ?_
    refine sP 1 (g1 := (114, [some (.ref 53), some (.long H), none, some (sI ((q : Int))), some (sI ((k : Int)))], [sI ((q : Int)), .ref 54, sI ((k : Int))], h)) rfl ?_
    have rg1 := hI_rg hh (rm_z (r := q) (by omega))
    refine s_iald (a := 54) (n := 6) (j := (q : Int)) hh rfl rfl rfl (by omega) (by omega) (by decide) (v := sI (hI h 54 q)) (by rw [Int.toNat_natCast]; exact hI_ok hh (rm_z (by omega))) ?_
    refine s_icmp (q := .ge) (a := (k : Int)) (b := hI h 54 q) rfl ⟨_, rfl⟩ rfl (by unfold sR aMi aMa; omega) (by unfold sR aMi aMa; omega) (fun hc2 => ?_) (fun hc2 => ?_)
    · have hc2 : ((hI h 54 q) : Int) ≤ ((k : Int)) := hc2
      omega
    · have hc2 : ¬ (((hI h 54 q) : Int) ≤ ((k : Int))) := hc2
      refine sP 2 (g1 := (118, [some (.ref 53), some (.long H), none, some (sI ((q : Int))), some (sI ((k : Int)))], [.long H, sJ 31], h)) rfl ?_
      refine s_b2 (w := Int64.ofInt 31 * H) rfl rfl rfl ?_
      refine sP 1 (g1 := (120, [some (.ref 53), some (.long H), none, some (sI ((q : Int))), some (sI ((k : Int)))], [.ref 53, .long (Int64.ofInt 31 * H)], h)) rfl ?_
      refine s_get (a := 53) (j := 1) hh rfl ⟨_, rfl⟩ rfl rfl rfl (v := .ref 55) (hR_ok hh (by decide +kernel)) ?_
      refine sP 2 (g1 := (123, [some (.ref 53), some (.long H), none, some (sI ((q : Int))), some (sI ((k : Int)))], [sI ((q : Int)), sI 40, .ref 55, .long (Int64.ofInt 31 * H)], h)) rfl ?_
      refine s_mul (a := 40) (b := (q : Int)) rfl rfl ?_
      refine sP 1 (g1 := (125, [some (.ref 53), some (.long H), none, some (sI ((q : Int))), some (sI ((k : Int)))], [sI ((k : Int)), sI (40 * ((q : Int))), .ref 55, .long (Int64.ofInt 31 * H)], h)) rfl ?_
      refine s_add (a := 40 * ((q : Int))) (b := (k : Int)) rfl rfl ?_
      refine s_iald (a := 55) (n := 240) (j := (40 * ((q : Int))) + ((k : Int))) hh rfl rfl rfl (by omega) (by omega) (by decide) (v := sI (hI h 55 (40 * q + k))) (by rw [show ((40 * ((q : Int))) + ((k : Int)) : Int).toNat = 40 * q + k by omega]; exact hI_ok hh (rm_cc (by omega))) ?_
      refine s_i2lr rfl rfl ?_
      refine s_b2 (w := dg H (hI h 55 (40 * q + k))) rfl rfl rfl ?_
      refine sP 1 (g1 := (130, [some (.ref 53), some (.long (dg H (hI h 55 (40 * q + k)))), none, some (sI ((q : Int))), some (sI ((k : Int)))], [], h)) rfl ?_
      refine s_inc (a := (k : Int)) (n := 1) (k := 4) rfl rfl rfl ?_
      refine sP 1 (g1 := (110, [some (.ref 53), some (.long (dg H (hI h 55 (40 * q + k)))), none, some (sI ((q : Int))), some (sI (((k : Int)) + 1))], [], h)) rfl ?_
      rw [show ((k : Int) + 1) = ((k + 1 : Nat) : Int) by omega]
      exact ih (k + 1) _ (by omega) hr
theorem fDmT {q : Nat} {n : Nat} {r : mR} (hh : aHp h) (hn : hI h 58 0 = n) (hq : q < 4) : ∀ (c k : Nat) (H : Int64) , k + c = (hI h 56 q).toNat → (∀ Z : Option Value, nRn sc (d + 6) (mMT mMe220) (mMC mMe220) (173, [some (.ref 53), some (.long (dgL (fun j => hI h 57 (60 * q + j)) c k H)), none, some (sI ((q : Int))), Z], [], h) r) → nRn sc (d + 6) (mMT mMe220) (mMC mMe220) (151, [some (.ref 53), some (.long H), none, some (sI ((q : Int))), some (sI ((k : Int)))], [], h) r := by
  have gz := hI_rg hh (tx_n hq)
  intro c
  induction c with
  | zero =>
    intro k H hk hr
    refine sP 2 (g1 := (153, [some (.ref 53), some (.long H), none, some (sI ((q : Int))), some (sI ((k : Int)))], [.ref 53, sI ((k : Int))], h)) rfl ?_
    refine s_get (a := 53) (j := 2) hh rfl ⟨_, rfl⟩ rfl rfl rfl (v := .ref 56) (hR_ok hh (by decide +kernel)) ?_
    refine sP 1 (g1 := (155, [some (.ref 53), some (.long H), none, some (sI ((q : Int))), some (sI ((k : Int)))], [sI ((q : Int)), .ref 56, sI ((k : Int))], h)) rfl ?_
    have rg1 := hI_rg hh (tx_n (j := q) (by omega))
    refine s_iald (a := 56) (n := 4) (j := (q : Int)) hh rfl rfl rfl (by omega) (by omega) (by decide) (v := sI (hI h 56 q)) (by rw [Int.toNat_natCast]; exact hI_ok hh (tx_n (by omega))) ?_
    refine s_icmp (q := .ge) (a := (k : Int)) (b := hI h 56 q) rfl ⟨_, rfl⟩ rfl (by unfold sR aMi aMa; omega) (by unfold sR aMi aMa; omega) (fun hc2 => ?_) (fun hc2 => ?_)
    · have hc2 : ((hI h 56 q) : Int) ≤ ((k : Int)) := hc2
      exact hr _
    · have hc2 : ¬ (((hI h 56 q) : Int) ≤ ((k : Int))) := hc2
      omega
  | succ c ih =>
    intro k H hk hr
    refine sP 2 (g1 := (153, [some (.ref 53), some (.long H), none, some (sI ((q : Int))), some (sI ((k : Int)))], [.ref 53, sI ((k : Int))], h)) rfl ?_
    refine s_get (a := 53) (j := 2) hh rfl ⟨_, rfl⟩ rfl rfl rfl (v := .ref 56) (hR_ok hh (by decide +kernel)) ?_
    refine sP 1 (g1 := (155, [some (.ref 53), some (.long H), none, some (sI ((q : Int))), some (sI ((k : Int)))], [sI ((q : Int)), .ref 56, sI ((k : Int))], h)) rfl ?_
    have rg1 := hI_rg hh (tx_n (j := q) (by omega))
    refine s_iald (a := 56) (n := 4) (j := (q : Int)) hh rfl rfl rfl (by omega) (by omega) (by decide) (v := sI (hI h 56 q)) (by rw [Int.toNat_natCast]; exact hI_ok hh (tx_n (by omega))) ?_
    refine s_icmp (q := .ge) (a := (k : Int)) (b := hI h 56 q) rfl ⟨_, rfl⟩ rfl (by unfold sR aMi aMa; omega) (by unfold sR aMi aMa; omega) (fun hc2 => ?_) (fun hc2 => ?_)
    · have hc2 : ((hI h 56 q) : Int) ≤ ((k : Int)) := hc2
      omega
    · have hc2 : ¬ (((hI h 56 q) : Int) ≤ ((k : Int))) := hc2
      refine sP 2 (g1 := (159, [some (.ref 53), some (.long H), none, some (sI ((q : Int))), some (sI ((k : Int)))], [.long H, sJ 31], h)) rfl ?_
      refine s_b2 (w := Int64.ofInt 31 * H) rfl rfl rfl ?_
      refine sP 1 (g1 := (161, [some (.ref 53), some (.long H), none, some (sI ((q : Int))), some (sI ((k : Int)))], [.ref 53, .long (Int64.ofInt 31 * H)], h)) rfl ?_
      refine s_get (a := 53) (j := 3) hh rfl ⟨_, rfl⟩ rfl rfl rfl (v := .ref 57) (hR_ok hh (by decide +kernel)) ?_
      refine sP 2 (g1 := (164, [some (.ref 53), some (.long H), none, some (sI ((q : Int))), some (sI ((k : Int)))], [sI ((q : Int)), sI 60, .ref 57, .long (Int64.ofInt 31 * H)], h)) rfl ?_
      refine s_mul (a := 60) (b := (q : Int)) rfl rfl ?_
      refine sP 1 (g1 := (166, [some (.ref 53), some (.long H), none, some (sI ((q : Int))), some (sI ((k : Int)))], [sI ((k : Int)), sI (60 * ((q : Int))), .ref 57, .long (Int64.ofInt 31 * H)], h)) rfl ?_
      refine s_add (a := 60 * ((q : Int))) (b := (k : Int)) rfl rfl ?_
      refine s_iald (a := 57) (n := 240) (j := (60 * ((q : Int))) + ((k : Int))) hh rfl rfl rfl (by omega) (by omega) (by decide) (v := sI (hI h 57 (60 * q + k))) (by rw [show ((60 * ((q : Int))) + ((k : Int)) : Int).toNat = 60 * q + k by omega]; exact hI_ok hh (tx_m (by omega))) ?_
      refine s_i2lr rfl rfl ?_
      refine s_b2 (w := dg H (hI h 57 (60 * q + k))) rfl rfl rfl ?_
      refine sP 1 (g1 := (171, [some (.ref 53), some (.long (dg H (hI h 57 (60 * q + k)))), none, some (sI ((q : Int))), some (sI ((k : Int)))], [], h)) rfl ?_
      refine s_inc (a := (k : Int)) (n := 1) (k := 4) rfl rfl rfl ?_
      refine sP 1 (g1 := (151, [some (.ref 53), some (.long (dg H (hI h 57 (60 * q + k)))), none, some (sI ((q : Int))), some (sI (((k : Int)) + 1))], [], h)) rfl ?_
      rw [show ((k : Int) + 1) = ((k + 1 : Nat) : Int) by omega]
      exact ih (k + 1) _ (by omega) hr
theorem fDm4 {n : Nat} {r : mR} (hh : aHp h) (hn : hI h 58 0 = n) : ∀ (c k : Nat) (H : Int64) (X : Option Value) , k + c = 6 → (∀ X Z : Option Value, nRn sc (d + 6) (mMT mMe220) (mMC mMe220) (134, [some (.ref 53), some (.long (dgR (fun q => hI h 54 q) (fun q j => hI h 55 (40 * q + j)) c k H)), none, Z, X], [], h) r) → nRn sc (d + 6) (mMT mMe220) (mMC mMe220) (95, [some (.ref 53), some (.long H), none, some (sI ((k : Int))), X], [], h) r := by
  intro c
  induction c with
  | zero =>
    intro k H X hk hr
    refine sP 2 (g1 := (97, [some (.ref 53), some (.long H), none, some (sI ((k : Int))), X], [sI 6, sI ((k : Int))], h)) rfl ?_
    refine s_icmp (q := .ge) (a := (k : Int)) (b := 6) rfl ⟨_, rfl⟩ rfl (by unfold sR aMi aMa; omega) (by unfold sR aMi aMa; omega) (fun hc1 => ?_) (fun hc1 => ?_)
    · have hc1 : (6 : Int) ≤ ((k : Int)) := hc1
      exact hr _ _
    · have hc1 : ¬ ((6 : Int) ≤ ((k : Int))) := hc1
      omega
  | succ c ih =>
    intro k H X hk hr
    refine sP 2 (g1 := (97, [some (.ref 53), some (.long H), none, some (sI ((k : Int))), X], [sI 6, sI ((k : Int))], h)) rfl ?_
    refine s_icmp (q := .ge) (a := (k : Int)) (b := 6) rfl ⟨_, rfl⟩ rfl (by unfold sR aMi aMa; omega) (by unfold sR aMi aMa; omega) (fun hc1 => ?_) (fun hc1 => ?_)
    · have hc1 : (6 : Int) ≤ ((k : Int)) := hc1
      omega
    · have hc1 : ¬ ((6 : Int) ≤ ((k : Int))) := hc1
      refine sP 2 (g1 := (100, [some (.ref 53), some (.long H), none, some (sI ((k : Int))), X], [.long H, sJ 31], h)) rfl ?_
      refine s_b2 (w := Int64.ofInt 31 * H) rfl rfl rfl ?_
      refine sP 1 (g1 := (102, [some (.ref 53), some (.long H), none, some (sI ((k : Int))), X], [.ref 53, .long (Int64.ofInt 31 * H)], h)) rfl ?_
      refine s_get (a := 53) (j := 0) hh rfl ⟨_, rfl⟩ rfl rfl rfl (v := .ref 54) (hR_ok hh (by decide +kernel)) ?_
      refine sP 1 (g1 := (104, [some (.ref 53), some (.long H), none, some (sI ((k : Int))), X], [sI ((k : Int)), .ref 54, .long (Int64.ofInt 31 * H)], h)) rfl ?_
      have rg2 := hI_rg hh (rm_z (r := k) (by omega))
      refine s_iald (a := 54) (n := 6) (j := (k : Int)) hh rfl rfl rfl (by omega) (by omega) (by decide) (v := sI (hI h 54 k)) (by rw [Int.toNat_natCast]; exact hI_ok hh (rm_z (by omega))) ?_
      refine s_i2lr rfl rfl ?_
      refine s_b2 (w := dg H (hI h 54 k)) rfl rfl rfl ?_
      refine sP 3 (g1 := (110, [some (.ref 53), some (.long (dg H (hI h 54 k))), none, some (sI ((k : Int))), some (sI 0)], [], h)) rfl ?_
      refine fDmR (n := n) (q := k) hh hn (by omega) (hI h 54 k).toNat 0 _ (by omega) (fun Z1 => ?_)
      refine s_inc (a := (k : Int)) (n := 1) (k := 3) rfl rfl rfl ?_
      refine sP 1 (g1 := (95, [some (.ref 53), some (.long (dgL (fun j => hI h 55 (40 * k + j)) (hI h 54 k).toNat 0 (dg H (hI h 54 k)))), none, some (sI (((k : Int)) + 1)), Z1], [], h)) rfl ?_
      rw [show ((k : Int) + 1) = ((k + 1 : Nat) : Int) by omega]
      exact ih (k + 1) _ _ (by omega) hr
theorem fDm5 {n : Nat} {r : mR} (hh : aHp h) (hn : hI h 58 0 = n) : ∀ (c k : Nat) (H : Int64) (X : Option Value) , k + c = 4 → (∀ X Z : Option Value, nRn sc (d + 6) (mMT mMe220) (mMC mMe220) (175, [some (.ref 53), some (.long (dgR (fun q => hI h 56 q) (fun q j => hI h 57 (60 * q + j)) c k H)), none, Z, X], [], h) r) → nRn sc (d + 6) (mMT mMe220) (mMC mMe220) (136, [some (.ref 53), some (.long H), none, some (sI ((k : Int))), X], [], h) r := by
  intro c
  induction c with
  | zero =>
    intro k H X hk hr
    refine sP 2 (g1 := (138, [some (.ref 53), some (.long H), none, some (sI ((k : Int))), X], [sI 4, sI ((k : Int))], h)) rfl ?_
    refine s_icmp (q := .ge) (a := (k : Int)) (b := 4) rfl ⟨_, rfl⟩ rfl (by unfold sR aMi aMa; omega) (by unfold sR aMi aMa; omega) (fun hc1 => ?_) (fun hc1 => ?_)
    · have hc1 : (4 : Int) ≤ ((k : Int)) := hc1
      exact hr _ _
    · have hc1 : ¬ ((4 : Int) ≤ ((k : Int))) := hc1
      omega
  | succ c ih =>
    intro k H X hk hr
    refine sP 2 (g1 := (138, [some (.ref 53), some (.long H), none, some (sI ((k : Int))), X], [sI 4, sI ((k : Int))], h)) rfl ?_
    refine s_icmp (q := .ge) (a := (k : Int)) (b := 4) rfl ⟨_, rfl⟩ rfl (by unfold sR aMi aMa; omega) (by unfold sR aMi aMa; omega) (fun hc1 => ?_) (fun hc1 => ?_)
    · have hc1 : (4 : Int) ≤ ((k : Int)) := hc1
      omega
    · have hc1 : ¬ ((4 : Int) ≤ ((k : Int))) := hc1
      refine sP 2 (g1 := (141, [some (.ref 53), some (.long H), none, some (sI ((k : Int))), X], [.long H, sJ 31], h)) rfl ?_
      refine s_b2 (w := Int64.ofInt 31 * H) rfl rfl rfl ?_
      refine sP 1 (g1 := (143, [some (.ref 53), some (.long H), none, some (sI ((k : Int))), X], [.ref 53, .long (Int64.ofInt 31 * H)], h)) rfl ?_
      refine s_get (a := 53) (j := 2) hh rfl ⟨_, rfl⟩ rfl rfl rfl (v := .ref 56) (hR_ok hh (by decide +kernel)) ?_
      refine sP 1 (g1 := (145, [some (.ref 53), some (.long H), none, some (sI ((k : Int))), X], [sI ((k : Int)), .ref 56, .long (Int64.ofInt 31 * H)], h)) rfl ?_
      have rg2 := hI_rg hh (tx_n (j := k) (by omega))
      refine s_iald (a := 56) (n := 4) (j := (k : Int)) hh rfl rfl rfl (by omega) (by omega) (by decide) (v := sI (hI h 56 k)) (by rw [Int.toNat_natCast]; exact hI_ok hh (tx_n (by omega))) ?_
      refine s_i2lr rfl rfl ?_
      refine s_b2 (w := dg H (hI h 56 k)) rfl rfl rfl ?_
      refine sP 3 (g1 := (151, [some (.ref 53), some (.long (dg H (hI h 56 k))), none, some (sI ((k : Int))), some (sI 0)], [], h)) rfl ?_
      refine fDmT (n := n) (q := k) hh hn (by omega) (hI h 56 k).toNat 0 _ (by omega) (fun Z1 => ?_)
      refine s_inc (a := (k : Int)) (n := 1) (k := 3) rfl rfl rfl ?_
      refine sP 1 (g1 := (136, [some (.ref 53), some (.long (dgL (fun j => hI h 57 (60 * k + j)) (hI h 56 k).toNat 0 (dg H (hI h 56 k)))), none, some (sI (((k : Int)) + 1)), Z1], [], h)) rfl ?_
      rw [show ((k : Int) + 1) = ((k + 1 : Nat) : Int) by omega]
      exact ih (k + 1) _ _ (by omega) hr
theorem fDgM {n : Nat} (hh : aHp h) (hn : hI h 58 0 = n) : nEv sc (d + 7) 220 [.ref 53] h (some (.long (dgR (fun q => hI h 56 q) (fun q j => hI h 57 (60 * q + j)) 4 0 (dgR (fun q => hI h 54 q) (fun q j => hI h 55 (40 * q + j)) 6 0 (dgL (fun q => if hI h 61 q = 0 then (-1 : Int) else hI h 60 (201 * q + 80)) 3 0 (dgP (aM9 h n) (fun a b => hI h 58 (7 + (6 * a + b))) n n 0 (dgL (cM h n) 10 0 (Int64.ofInt 17))))))), h) := by
  refine nEv_of (t := mMe220) rfl ?_
  show nRn sc (d + 6) (mMT mMe220) (mMC mMe220) (0, [some (.ref 53), none, none, none, none], [], h) _
  refine sP 4 (g1 := (4, [some (.ref 53), some (sJ 17), none, some (sI 0), none], [], h)) rfl ?_
  refine fDm1 hh hn 10 0 _ _ (by omega) (fun X0 Z0 => ?_)
  refine sP 2 (g1 := (20, [some (.ref 53), some (.long (dgL (cM h n) 10 0 (Int64.ofInt 17))), none, some (sI 0), X0], [], h)) rfl ?_
  refine fDm2 hh hn n 0 _ _ (by omega) (fun X1 Z1 => ?_)
  refine sP 2 (g1 := (67, [some (.ref 53), some (.long (dgP (aM9 h n) (fun a b => hI h 58 (7 + (6 * a + b))) n n 0 (dgL (cM h n) 10 0 (Int64.ofInt 17)))), none, some (sI 0), X1], [], h)) rfl ?_
  refine fDm3 (n := n) hh hn 3 0 _ _ (by omega) (fun X2 Z2 => ?_)
  refine sP 2 (g1 := (95, [some (.ref 53), some (.long (dgL (fun q => if hI h 61 q = 0 then (-1 : Int) else hI h 60 (201 * q + 80)) 3 0 (dgP (aM9 h n) (fun a b => hI h 58 (7 + (6 * a + b))) n n 0 (dgL (cM h n) 10 0 (Int64.ofInt 17))))), none, some (sI 0), X2], [], h)) rfl ?_
  refine fDm4 (n := n) hh hn 6 0 _ _ (by omega) (fun X3 Z3 => ?_)
  refine sP 2 (g1 := (136, [some (.ref 53), some (.long (dgR (fun q => hI h 54 q) (fun q j => hI h 55 (40 * q + j)) 6 0 (dgL (fun q => if hI h 61 q = 0 then (-1 : Int) else hI h 60 (201 * q + 80)) 3 0 (dgP (aM9 h n) (fun a b => hI h 58 (7 + (6 * a + b))) n n 0 (dgL (cM h n) 10 0 (Int64.ofInt 17)))))), none, some (sI 0), X3], [], h)) rfl ?_
  refine fDm5 (n := n) hh hn 4 0 _ _ (by omega) (fun X4 Z4 => ?_)
  refine sP 1 (g1 := (176, [some (.ref 53), some (.long (dgR (fun q => hI h 56 q) (fun q j => hI h 57 (60 * q + j)) 4 0 (dgR (fun q => hI h 54 q) (fun q j => hI h 55 (40 * q + j)) 6 0 (dgL (fun q => if hI h 61 q = 0 then (-1 : Int) else hI h 60 (201 * q + 80)) 3 0 (dgP (aM9 h n) (fun a b => hI h 58 (7 + (6 * a + b))) n n 0 (dgL (cM h n) 10 0 (Int64.ofInt 17))))))), none, Z4, X4], [.long (dgR (fun q => hI h 56 q) (fun q j => hI h 57 (60 * q + j)) 4 0 (dgR (fun q => hI h 54 q) (fun q j => hI h 55 (40 * q + j)) 6 0 (dgL (fun q => if hI h 61 q = 0 then (-1 : Int) else hI h 60 (201 * q + 80)) 3 0 (dgP (aM9 h n) (fun a b => hI h 58 (7 + (6 * a + b))) n n 0 (dgL (cM h n) 10 0 (Int64.ofInt 17))))))], h)) rfl ?_
  exact s_ret rfl rfl
end DIG
theorem dgXM {h : mH} {n : Nat} (hp : vP h) (hn : hI h 3 3 = (n : Int)) : dgR (fun q => hI h 56 q) (fun q j => hI h 57 (60 * q + j)) 4 0 (dgR (fun q => hI h 54 q) (fun q j => hI h 55 (40 * q + j)) 6 0 (dgL (fun q => if hI h 61 q = 0 then (-1 : Int) else hI h 60 (201 * q + 80)) 3 0 (dgP (aM9 h n) (fun a b => hI h 58 (7 + (6 * a + b))) n n 0 (dgL (cM h n) 10 0 (Int64.ofInt 17))))) = dgR (fun q => hI h (33 + 2 * q) 1) (fun q => hI h (34 + 2 * q)) 4 0 (dgR (fun q => hI h (21 + 2 * q) 1) (fun q => hI h (22 + 2 * q)) 6 0 (dgL (fun q => if hI h (41 + 4 * q) 3 = 0 then (-1 : Int) else hI h (41 + 4 * q) 5) 3 0 (dgP (aX9 h n) (fun a b => hI h 5 (6 * a + b)) n n 0 (dgL (cX h n) 10 0 (Int64.ofInt 17))))) := by
  have hh := vP_a h hp
  have g6 := hI_rg hh xw_p
  have a4 := hp.1.2.1.2.2.2.1
  have t1 : dgL (cM h n) 10 0 (Int64.ofInt 17) = dgL (cX h n) 10 0 (Int64.ofInt 17) := dgL_cg 10 0 _ (fun j _ hj => Value.int.inj (cXM hp hn (by omega)))
  have t2 : ∀ H, dgP (aM9 h n) (fun a b => hI h 58 (7 + (6 * a + b))) n n 0 H = dgP (aX9 h n) (fun a b => hI h 5 (6 * a + b)) n n 0 H := fun H => dgP_cg n 0 H (fun j _ hj => ⟨fun k hk => aXM hp hn (by omega) hk, fun b hb => ((a4 j (by omega)).2 b (by omega)).symm⟩)
  have t3 : ∀ H, dgL (fun q => if hI h 61 q = 0 then (-1 : Int) else hI h 60 (201 * q + 80)) 3 0 H = dgL (fun q => if hI h (41 + 4 * q) 3 = 0 then (-1 : Int) else hI h (41 + 4 * q) 5) 3 0 H := fun H => dgL_cg 3 0 H (fun j _ hj => by
    show Int32.ofInt (if hI h 61 j = 0 then (-1 : Int) else hI h 60 (201 * j + 80)) = Int32.ofInt (if hI h (41 + 4 * j) 3 = 0 then (-1 : Int) else hI h (41 + 4 * j) 5)
    rcases hp.1.2.2 j (by omega) with w | w
    · rw [if_pos w.1, if_pos w.2]
    · rw [if_neg (by rw [w.1]; decide), if_neg w.2.1, w.2.2.2.2.1])
  have t4 : ∀ H, dgR (fun q => hI h 54 q) (fun q j => hI h 55 (40 * q + j)) 6 0 H = dgR (fun q => hI h (21 + 2 * q) 1) (fun q => hI h (22 + 2 * q)) 6 0 H := fun H => dgR_cg 6 0 H (fun j _ hj => ⟨rS hp.2 (by omega), fun i hi => rCe hp.2 (by omega) (by
    have g := hI_rg hh (rm_z (r := j) (by omega))
    have hi : i < (hI h 54 j).toNat := hi
    omega)⟩)
  have t5 : ∀ H, dgR (fun q => hI h 56 q) (fun q j => hI h 57 (60 * q + j)) 4 0 H = dgR (fun q => hI h (33 + 2 * q) 1) (fun q => hI h (34 + 2 * q)) 4 0 H := fun H => dgR_cg 4 0 H (fun j _ hj => ⟨hI_cg2 ((hp.1.1.2 j (by omega)).1).symm, fun i hi => hI_cg2 ((hp.1.1.2 j (by omega)).2 i (by
    have g := hI_rg hh (tx_n (j := j) (by omega))
    have hi : i < (hI h 56 j).toNat := hi
    omega)).symm⟩)
  rw [t1, t2, t3, t4, t5]
theorem vDigest {sc : List Int32} {h : mH} (hp : vP h) : ∃ (w : Int64), nEv sc 100 120 [.ref 0] h (some (.long w), h) ∧ nEv sc 100 220 [.ref 53] h (some (.long w), h) := by
  have hh := vP_a h hp
  have e3 : hI h 3 3 = hI h 58 0 := hp.1.2.1.1
  obtain ⟨n, en⟩ := iN (hI_rg hh xw_p).1
  have b := fDgM (sc := sc) (d := 93) (n := n) hh (by omega)
  rw [dgXM hp en] at b
  exact ⟨_, fDgX (d := 93) hh en, b⟩

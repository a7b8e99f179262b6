/-! who agrees with whom in a set: all pairs -/
noncomputable def iC (f : Nat → Nat → Bool) (a : Nat) : Nat → Nat → Nat
  | 0, _ => 0
  | k + 1, b => (if f a b = true then 1 else 0) + iC f a k (b + 1)
noncomputable def oC (f : Nat → Nat → Bool) (n : Nat) : Nat → Nat → Nat
  | 0, _ => 0
  | k + 1, a => iC f a (n - (a + 1)) (a + 1) + oC f n k (a + 1)
noncomputable def iF (f : Nat → Nat → Bool) (a : Nat) : Nat → Nat → Int
  | 0, _ => -9
  | k + 1, b => if f a b = true then 6 * (a : Int) + (b : Int) else iF f a k (b + 1)
noncomputable def oF (f : Nat → Nat → Bool) (n : Nat) : Nat → Nat → Int
  | 0, _ => -9
  | k + 1, a => if iF f a (n - (a + 1)) (a + 1) = -9 then oF f n k (a + 1) else iF f a (n - (a + 1)) (a + 1)
theorem iF_rg (f : Nat → Nat → Bool) (a : Nat) : ∀ k b, iF f a k b = -9 ∨ 0 ≤ iF f a k b ∧ iF f a k b ≤ 6 * (a : Int) + (b + k : Nat)
  | 0, _ => Or.inl rfl
  | k + 1, b => by
    have := iF_rg f a k (b + 1)
    unfold iF
    split <;> omega
theorem iC_le (f : Nat → Nat → Bool) (a : Nat) : ∀ k b, iC f a k b ≤ k
  | 0, _ => Nat.le_refl _
  | k + 1, b => by
    have := iC_le f a k (b + 1)
    unfold iC
    split <;> omega
theorem iC_cg {f g : Nat → Nat → Bool} {n a : Nat} (hf : ∀ b, b < n → f a b = g a b) : ∀ k b, b + k ≤ n → iC f a k b = iC g a k b
  | 0, _, _ => rfl
  | k + 1, b, h => by
    unfold iC
    rw [hf b (by omega), iC_cg hf k (b + 1) (by omega)]
theorem iF_cg {f g : Nat → Nat → Bool} {n a : Nat} (hf : ∀ b, b < n → f a b = g a b) : ∀ k b, b + k ≤ n → iF f a k b = iF g a k b
  | 0, _, _ => rfl
  | k + 1, b, h => by
    unfold iF
    rw [hf b (by omega), iF_cg hf k (b + 1) (by omega)]
theorem oC_cg {f g : Nat → Nat → Bool} {n : Nat} (hf : ∀ a b, a < n → b < n → f a b = g a b) : ∀ k a, a + k ≤ n → oC f n k a = oC g n k a
  | 0, _, _ => rfl
  | k + 1, a, h => by
    unfold oC
    rw [iC_cg (fun b hb => hf a b (by omega) hb) _ _ (by omega), oC_cg hf k (a + 1) (by omega)]
theorem oF_cg {f g : Nat → Nat → Bool} {n : Nat} (hf : ∀ a b, a < n → b < n → f a b = g a b) : ∀ k a, a + k ≤ n → oF f n k a = oF g n k a
  | 0, _, _ => rfl
  | k + 1, a, h => by
    unfold oF
    rw [iF_cg (fun b hb => hf a b (by omega) hb) _ _ (by omega), oF_cg hf k (a + 1) (by omega)]
/-- what one seems, in the class and in the reference -/
noncomputable def sX (h : mH) (n a s : Nat) : Int := pSeem (hI h 5) n (hI h 4 a).toNat a s
noncomputable def sM (g : mH) (n a s : Nat) : Int := pSeem (fun j => hI g 58 (7 + j)) n (hI g 58 (1 + a)).toNat a s
noncomputable def agX (h : mH) (n s a b : Nat) : Bool := pAg (sX h n a s) (sX h n b s) (bt s a) (bt s b)
noncomputable def agM (g : mH) (n s a b : Nat) : Bool := pAg (sM g n a s) (sM g n b s) (bt s a) (bt s b)
theorem nR_sX {h g : mH} {n a s : Nat} (hr : nR h g) (hn : hI h 3 3 = (n : Int)) (ha : a < n) : sM g n a s = sX h n a s := by
  unfold sM sX
  rw [nR_seem hr hn ha, (hr.2.2.2.1 a (by omega)).1]
theorem nR_aX {h g : mH} {n a b s : Nat} (hr : nR h g) (hn : hI h 3 3 = (n : Int)) (ha : a < n) (hb : b < n) : agM g n s a b = agX h n s a b := by
  unfold agM agX
  rw [nR_sX hr hn ha, nR_sX hr hn hb]
section PAIRS
variable {sc : List Int32} {d : Nat} {h : mH}
theorem sX_rg {n a s : Nat} (hh : aHp h) (hn : n ≤ 6) (ha : a < 6) : 0 ≤ sX h n a s ∧ sX h n a s ≤ 54 := pSeem_rg (eG (e := 3) hh (by decide)) ha hn
theorem sM_rg {n a s : Nat} (hh : aHp h) (hn : n ≤ 6) (ha : a < 6) : 0 ≤ sM h n a s ∧ sM h n a s ≤ 54 := pSeem_rg (mGk hh) ha hn
theorem fSeemK {n a s : Nat} (hh : aHp h) (hn : hI h 3 3 = n) (ha : a < 6) (hs : s < 64) : nEv sc (d + 4) 37 [.ref 3, sI (a : Int), sI (s : Int)] h (some (sI (sX h n a s)), h) := by
  have rka := hI_rg hh (xw_k ha)
  exact fSeeming hh hn ha hs (by omega)
theorem fSeemKM {n a s : Nat} (hh : aHp h) (hn : hI h 58 0 = n) (ha : a < 6) (hs : s < 64) : nEv sc (d + 3) 150 [.ref 53, sI (a : Int), sI (s : Int)] h (some (sI (sM h n a s)), h) := by
  have rka := hI_rg hh (nw_kd ha)
  exact fSeemM hh hn ha hs (by omega)
theorem fAgrX {n a b s : Nat} (hh : aHp h) (hn : hI h 3 3 = n) (ha : a < 6) (hb : b < 6) (hs : s < 64) : nEv sc (d + 5) 65 [.ref 3, sI (a : Int), sI (b : Int), sI (s : Int)] h (some (sI (if agX h n s a b = true then 1 else 0)), h) := by
  have rka := hI_rg hh (xw_k ha)
  have rkb := hI_rg hh (xw_k hb)
  exact fAgreed (e := 3) hh (by decide) hn ha hb hs (show hI h 4 a = ((hI h 4 a).toNat : Int) by omega) (show hI h 4 b = ((hI h 4 b).toNat : Int) by omega)
theorem fAgrM {n a b s : Nat} (hh : aHp h) (hn : hI h 58 0 = n) (ha : a < 6) (hb : b < 6) (hs : s < 64) : nEv sc (d + 4) 171 [.ref 53, sI (a : Int), sI (b : Int), sI (s : Int)] h (some (sI (if pAg (sM h n a s) (sM h n b s) true true = true then 1 else 0)), h) := by
  have rka := hI_rg hh (nw_kd ha)
  have rkb := hI_rg hh (nw_kd hb)
  exact fDoAgree hh hn ha hb hs (by omega) (by omega)
theorem fAgI {n s a : Nat} (hh : aHp h) (hn : hI h 3 3 = n) (ha : a < n) (hs : s < 64) : ∀ (k b c : Nat), b + k = n → ∀ r, nRn sc (d + 5) (mMT mMe80) (mMC mMe80) (25, [some (.ref 3), some (sI (s : Int)), some (sI ((c + iC (agX h n s) a k b : Nat) : Int)), some (sI (a : Int)), some (sI (n : Int))], [], h) r → nRn sc (d + 5) (mMT mMe80) (mMC mMe80) (12, [some (.ref 3), some (sI (s : Int)), some (sI (c : Int)), some (sI (a : Int)), some (sI (b : Int))], [], h) r := by
  have gp := hI_rg hh xw_p
  intro k
  induction k with
  | zero =>
    intro b c hb r r1
    have hbn : b = n := by omega
    subst hbn
    have r1 : nRn sc (d + 5) (mMT mMe80) (mMC mMe80) (25, [some (.ref 3), some (sI (s : Int)), some (sI (c : Int)), some (sI (a : Int)), some (sI (b : Int))], [], h) r := r1
    refine sP 2 (g1 := (14, [some (.ref 3), some (sI ((s : Int))), some (sI ((c : Int))), some (sI ((a : Int))), some (sI ((b : Int)))], [.ref 3, sI ((b : Int))], h)) rfl ?_
    refine s_get (a := 3) (j := 3) hh rfl ⟨_, rfl⟩ rfl rfl rfl (v := sI (hI h 3 3)) (hI_ok hh xw_p) ?_
    refine s_icmp (q := .ge) (a := (b : Int)) (b := hI h 3 3) rfl ⟨_, rfl⟩ rfl (by unfold sR aMi aMa; omega) (by unfold sR aMi aMa; omega) (fun hc1 => ?_) (fun hc1 => ?_)
    · have hc1 : ((hI h 3 3) : Int) ≤ ((b : Int)) := hc1
      exact r1
    · have hc1 : ¬ (((hI h 3 3) : Int) ≤ ((b : Int))) := hc1
      omega
  | succ k ih =>
    intro b c hb r r1
    have ev := fAgrX (sc := sc) (d := d) hh hn (show a < 6 by omega) (show b < 6 by omega) hs
    have e1 : iC (agX h n s) a (k + 1) b = (if agX h n s a b = true then 1 else 0) + iC (agX h n s) a k (b + 1) := rfl
    rw [e1] at r1
    by_cases hc : agX h n s a b = true
    · rw [if_pos hc] at ev r1
      have r0 := ih (b + 1) (c + 1) (by omega) r (by rw [show c + 1 + iC (agX h n s) a k (b + 1) = c + (1 + iC (agX h n s) a k (b + 1)) by omega]; exact r1)
      refine sP 2 (g1 := (14, [some (.ref 3), some (sI ((s : Int))), some (sI ((c : Int))), some (sI ((a : Int))), some (sI ((b : Int)))], [.ref 3, sI ((b : Int))], h)) rfl ?_
      refine s_get (a := 3) (j := 3) hh rfl ⟨_, rfl⟩ rfl rfl rfl (v := sI (hI h 3 3)) (hI_ok hh xw_p) ?_
      refine s_icmp (q := .ge) (a := (b : Int)) (b := hI h 3 3) rfl ⟨_, rfl⟩ rfl (by unfold sR aMi aMa; omega) (by unfold sR aMi aMa; omega) (fun hc1 => ?_) (fun hc1 => ?_)
      · have hc1 : ((hI h 3 3) : Int) ≤ ((b : Int)) := hc1
        omega
      · have hc1 : ¬ (((hI h 3 3) : Int) ≤ ((b : Int))) := hc1
        refine sP 4 (g1 := (20, [some (.ref 3), some (sI ((s : Int))), some (sI ((c : Int))), some (sI ((a : Int))), some (sI ((b : Int)))], [sI ((s : Int)), sI ((b : Int)), sI ((a : Int)), .ref 3], h)) rfl ?_
        refine s_call (k := 65) (args := [.ref 3, sI ((a : Int)), sI ((b : Int)), sI ((s : Int))]) (st := []) (v := some (sI 1)) (h1 := h) rfl ⟨rfl, rfl⟩ rfl rfl rfl rfl (sRcv hh (a := 3) rfl rfl) rfl ev ?_
        refine s_ifc (q := .eq) (a := 1) rfl ⟨_, rfl⟩ rfl (by unfold sR aMi aMa; omega) (fun hc2 => ?_) (fun hc2 => ?_)
        · have hc2 : (1 : Int) = 0 := hc2
          omega
        · have hc2 : ¬ ((1 : Int) = 0) := hc2
          refine s_inc (a := (c : Int)) (n := 1) (k := 2) rfl rfl rfl ?_
          refine s_inc (a := (b : Int)) (n := 1) (k := 4) rfl rfl rfl ?_
          refine sP 1 (g1 := (12, [some (.ref 3), some (sI ((s : Int))), some (sI (((c : Int)) + 1)), some (sI ((a : Int))), some (sI (((b : Int)) + 1))], [], h)) rfl ?_
          rw [show ((b : Int) + 1) = ((b + 1 : Nat) : Int) by omega, show ((c : Int) + 1) = ((c + 1 : Nat) : Int) by omega]
          exact r0
    · rw [if_neg hc] at ev r1
      rw [Nat.zero_add] at r1
      have r0 := ih (b + 1) c (by omega) r r1
      refine sP 2 (g1 := (14, [some (.ref 3), some (sI ((s : Int))), some (sI ((c : Int))), some (sI ((a : Int))), some (sI ((b : Int)))], [.ref 3, sI ((b : Int))], h)) rfl ?_
      refine s_get (a := 3) (j := 3) hh rfl ⟨_, rfl⟩ rfl rfl rfl (v := sI (hI h 3 3)) (hI_ok hh xw_p) ?_
      refine s_icmp (q := .ge) (a := (b : Int)) (b := hI h 3 3) rfl ⟨_, rfl⟩ rfl (by unfold sR aMi aMa; omega) (by unfold sR aMi aMa; omega) (fun hc1 => ?_) (fun hc1 => ?_)
      · have hc1 : ((hI h 3 3) : Int) ≤ ((b : Int)) := hc1
        omega
      · have hc1 : ¬ (((hI h 3 3) : Int) ≤ ((b : Int))) := hc1
        refine sP 4 (g1 := (20, [some (.ref 3), some (sI ((s : Int))), some (sI ((c : Int))), some (sI ((a : Int))), some (sI ((b : Int)))], [sI ((s : Int)), sI ((b : Int)), sI ((a : Int)), .ref 3], h)) rfl ?_
        refine s_call (k := 65) (args := [.ref 3, sI ((a : Int)), sI ((b : Int)), sI ((s : Int))]) (st := []) (v := some (sI 0)) (h1 := h) rfl ⟨rfl, rfl⟩ rfl rfl rfl rfl (sRcv hh (a := 3) rfl rfl) rfl ev ?_
        refine s_ifc (q := .eq) (a := 0) rfl ⟨_, rfl⟩ rfl (by unfold sR aMi aMa; omega) (fun hc2 => ?_) (fun hc2 => ?_)
        · have hc2 : (0 : Int) = 0 := hc2
          refine s_inc (a := (b : Int)) (n := 1) (k := 4) rfl rfl rfl ?_
          refine sP 1 (g1 := (12, [some (.ref 3), some (sI ((s : Int))), some (sI ((c : Int))), some (sI ((a : Int))), some (sI (((b : Int)) + 1))], [], h)) rfl ?_
          rw [show ((b : Int) + 1) = ((b + 1 : Nat) : Int) by omega]
          exact r0
        · have hc2 : ¬ ((0 : Int) = 0) := hc2
          omega
theorem fAgO {n s : Nat} (hh : aHp h) (hn : hI h 3 3 = n) (hs : s < 64) : ∀ (k a c : Nat) (X : Option Value), a + k = n → nRn sc (d + 5) (mMT mMe80) (mMC mMe80) (4, [some (.ref 3), some (sI (s : Int)), some (sI (c : Int)), some (sI (a : Int)), X], [], h) (some (sI ((c + oC (agX h n s) n k a : Nat) : Int)), h) := by
  have gp := hI_rg hh xw_p
  intro k
  induction k with
  | zero =>
    intro a c X hb
    have hbn : a = n := by omega
    subst hbn
    refine sP 2 (g1 := (6, [some (.ref 3), some (sI ((s : Int))), some (sI ((c : Int))), some (sI ((a : Int))), X], [.ref 3, sI ((a : Int))], h)) rfl ?_
    refine s_get (a := 3) (j := 3) hh rfl ⟨_, rfl⟩ rfl rfl rfl (v := sI (hI h 3 3)) (hI_ok hh xw_p) ?_
    refine s_icmp (q := .ge) (a := (a : Int)) (b := hI h 3 3) rfl ⟨_, rfl⟩ rfl (by unfold sR aMi aMa; omega) (by unfold sR aMi aMa; omega) (fun hc1 => ?_) (fun hc1 => ?_)
    · have hc1 : ((hI h 3 3) : Int) ≤ ((a : Int)) := hc1
      refine sP 1 (g1 := (28, [some (.ref 3), some (sI ((s : Int))), some (sI ((c : Int))), some (sI ((a : Int))), X], [sI ((c : Int))], h)) rfl ?_
      exact s_reti rfl rfl (Or.inl rfl) rfl rfl
    · have hc1 : ¬ (((hI h 3 3) : Int) ≤ ((a : Int))) := hc1
      omega
  | succ k ih =>
    intro a c X hb
    have e1 : oC (agX h n s) n (k + 1) a = iC (agX h n s) a (n - (a + 1)) (a + 1) + oC (agX h n s) n k (a + 1) := rfl
    have r1 := ih (a + 1) (c + iC (agX h n s) a (n - (a + 1)) (a + 1)) (some (sI (n : Int))) (by omega)
    rw [e1, ← Nat.add_assoc]
    have r2 := fAgI (sc := sc) (d := d) hh hn (show a < n by omega) hs (n - (a + 1)) (a + 1) c (by omega)
    refine sP 2 (g1 := (6, [some (.ref 3), some (sI ((s : Int))), some (sI ((c : Int))), some (sI ((a : Int))), X], [.ref 3, sI ((a : Int))], h)) rfl ?_
    refine s_get (a := 3) (j := 3) hh rfl ⟨_, rfl⟩ rfl rfl rfl (v := sI (hI h 3 3)) (hI_ok hh xw_p) ?_
    refine s_icmp (q := .ge) (a := (a : Int)) (b := hI h 3 3) rfl ⟨_, rfl⟩ rfl (by unfold sR aMi aMa; omega) (by unfold sR aMi aMa; omega) (fun hc1 => ?_) (fun hc1 => ?_)
    · have hc1 : ((hI h 3 3) : Int) ≤ ((a : Int)) := hc1
      omega
    · have hc1 : ¬ (((hI h 3 3) : Int) ≤ ((a : Int))) := hc1
      refine sP 2 (g1 := (10, [some (.ref 3), some (sI ((s : Int))), some (sI ((c : Int))), some (sI ((a : Int))), X], [sI 1, sI ((a : Int))], h)) rfl ?_
      refine s_add (a := (a : Int)) (b := 1) rfl rfl ?_
      refine sP 1 (g1 := (12, [some (.ref 3), some (sI ((s : Int))), some (sI ((c : Int))), some (sI ((a : Int))), some (sI (((a : Int)) + 1))], [], h)) rfl ?_
      rw [show ((a : Int) + 1) = ((a + 1 : Nat) : Int) by omega]
      refine r2 _ ?_
      refine s_inc (a := (a : Int)) (n := 1) (k := 3) rfl rfl rfl ?_
      refine sP 1 (g1 := (4, [some (.ref 3), some (sI ((s : Int))), some (sI (((c + iC (agX h n s) a (n - (a + 1)) (a + 1) : Nat) : Int))), some (sI (((a : Int)) + 1)), some (sI ((n : Int)))], [], h)) rfl ?_
      rw [show ((a : Int) + 1) = ((a + 1 : Nat) : Int) by omega]
      exact r1
theorem fAgreeing {n s : Nat} (hh : aHp h) (hn : hI h 3 3 = n) (hs : s < 64) : nEv sc (d + 6) 80 [.ref 3, sI (s : Int)] h (some (sI ((oC (agX h n s) n n 0 : Nat) : Int)), h) := by
  have r1 := fAgO (sc := sc) (d := d) hh hn hs n 0 0 none (by omega)
  rw [Nat.zero_add] at r1
  refine nEv_of (t := mMe80) rfl ?_
  show nRn sc (d + 5) (mMT mMe80) (mMC mMe80) (0, [some (.ref 3), some (sI (s : Int)), none, none, none], [], h) _
  refine sP 4 (g1 := (4, [some (.ref 3), some (sI (s : Int)), some (sI ((0 : Nat) : Int)), some (sI ((0 : Nat) : Int)), none], [], h)) rfl ?_
  exact r1
/-! the first pair, in the class -/
theorem fFaI {n s a : Nat} (hh : aHp h) (hn : hI h 3 3 = n) (ha : a < n) (hs : s < 64) : ∀ (k b : Nat), b + k = n → ∀ r, (iF (agX h n s) a k b = -9 → nRn sc (d + 5) (mMT mMe79) (mMC mMe79) (28, [some (.ref 3), some (sI (s : Int)), some (sI (a : Int)), some (sI (n : Int))], [], h) r) → (iF (agX h n s) a k b ≠ -9 → r = (some (sI (iF (agX h n s) a k b)), h)) → nRn sc (d + 5) (mMT mMe79) (mMC mMe79) (10, [some (.ref 3), some (sI (s : Int)), some (sI (a : Int)), some (sI (b : Int))], [], h) r := by
  have gp := hI_rg hh xw_p
  intro k
  induction k with
  | zero =>
    intro b hb r r1 r2
    have hbn : b = n := by omega
    subst hbn
    have r0 := r1 rfl
    refine sP 2 (g1 := (12, [some (.ref 3), some (sI ((s : Int))), some (sI ((a : Int))), some (sI ((b : Int)))], [.ref 3, sI ((b : Int))], h)) rfl ?_
    refine s_get (a := 3) (j := 3) hh rfl ⟨_, rfl⟩ rfl rfl rfl (v := sI (hI h 3 3)) (hI_ok hh xw_p) ?_
    refine s_icmp (q := .ge) (a := (b : Int)) (b := hI h 3 3) rfl ⟨_, rfl⟩ rfl (by unfold sR aMi aMa; omega) (by unfold sR aMi aMa; omega) (fun hc1 => ?_) (fun hc1 => ?_)
    · have hc1 : ((hI h 3 3) : Int) ≤ ((b : Int)) := hc1
      exact r0
    · have hc1 : ¬ (((hI h 3 3) : Int) ≤ ((b : Int))) := hc1
      omega
  | succ k ih =>
    intro b hb r r1 r2
    have ev := fAgrX (sc := sc) (d := d) hh hn (show a < 6 by omega) (show b < 6 by omega) hs
    have e1 : iF (agX h n s) a (k + 1) b = if agX h n s a b = true then 6 * (a : Int) + (b : Int) else iF (agX h n s) a k (b + 1) := rfl
    rw [e1] at r1 r2
    by_cases hc : agX h n s a b = true
    · rw [if_pos hc] at ev r2
      have er := r2 (by omega)
      rw [er]
      refine sP 2 (g1 := (12, [some (.ref 3), some (sI ((s : Int))), some (sI ((a : Int))), some (sI ((b : Int)))], [.ref 3, sI ((b : Int))], h)) rfl ?_
      refine s_get (a := 3) (j := 3) hh rfl ⟨_, rfl⟩ rfl rfl rfl (v := sI (hI h 3 3)) (hI_ok hh xw_p) ?_
      refine s_icmp (q := .ge) (a := (b : Int)) (b := hI h 3 3) rfl ⟨_, rfl⟩ rfl (by unfold sR aMi aMa; omega) (by unfold sR aMi aMa; omega) (fun hc1 => ?_) (fun hc1 => ?_)
      · have hc1 : ((hI h 3 3) : Int) ≤ ((b : Int)) := hc1
        omega
      · have hc1 : ¬ (((hI h 3 3) : Int) ≤ ((b : Int))) := hc1
        refine sP 4 (g1 := (18, [some (.ref 3), some (sI ((s : Int))), some (sI ((a : Int))), some (sI ((b : Int)))], [sI ((s : Int)), sI ((b : Int)), sI ((a : Int)), .ref 3], h)) rfl ?_
        refine s_call (k := 65) (args := [.ref 3, sI ((a : Int)), sI ((b : Int)), sI ((s : Int))]) (st := []) (v := some (sI 1)) (h1 := h) rfl ⟨rfl, rfl⟩ rfl rfl rfl rfl (sRcv hh (a := 3) rfl rfl) rfl ev ?_
        refine s_ifc (q := .eq) (a := 1) rfl ⟨_, rfl⟩ rfl (by unfold sR aMi aMa; omega) (fun hc2 => ?_) (fun hc2 => ?_)
        · have hc2 : (1 : Int) = 0 := hc2
          omega
        · have hc2 : ¬ ((1 : Int) = 0) := hc2
          refine sP 2 (g1 := (22, [some (.ref 3), some (sI ((s : Int))), some (sI ((a : Int))), some (sI ((b : Int)))], [sI ((a : Int)), sI 6], h)) rfl ?_
          refine s_mul (a := 6) (b := (a : Int)) rfl rfl ?_
          refine sP 1 (g1 := (24, [some (.ref 3), some (sI ((s : Int))), some (sI ((a : Int))), some (sI ((b : Int)))], [sI ((b : Int)), sI (6 * ((a : Int)))], h)) rfl ?_
          refine s_add (a := 6 * ((a : Int))) (b := (b : Int)) rfl rfl ?_
          exact s_reti rfl rfl (Or.inl rfl) rfl rfl
    · rw [if_neg hc] at ev r1 r2
      have r0 := ih (b + 1) (by omega) r r1 r2
      refine sP 2 (g1 := (12, [some (.ref 3), some (sI ((s : Int))), some (sI ((a : Int))), some (sI ((b : Int)))], [.ref 3, sI ((b : Int))], h)) rfl ?_
      refine s_get (a := 3) (j := 3) hh rfl ⟨_, rfl⟩ rfl rfl rfl (v := sI (hI h 3 3)) (hI_ok hh xw_p) ?_
      refine s_icmp (q := .ge) (a := (b : Int)) (b := hI h 3 3) rfl ⟨_, rfl⟩ rfl (by unfold sR aMi aMa; omega) (by unfold sR aMi aMa; omega) (fun hc1 => ?_) (fun hc1 => ?_)
      · have hc1 : ((hI h 3 3) : Int) ≤ ((b : Int)) := hc1
        omega
      · have hc1 : ¬ (((hI h 3 3) : Int) ≤ ((b : Int))) := hc1
        refine sP 4 (g1 := (18, [some (.ref 3), some (sI ((s : Int))), some (sI ((a : Int))), some (sI ((b : Int)))], [sI ((s : Int)), sI ((b : Int)), sI ((a : Int)), .ref 3], h)) rfl ?_
        refine s_call (k := 65) (args := [.ref 3, sI ((a : Int)), sI ((b : Int)), sI ((s : Int))]) (st := []) (v := some (sI 0)) (h1 := h) rfl ⟨rfl, rfl⟩ rfl rfl rfl rfl (sRcv hh (a := 3) rfl rfl) rfl ev ?_
        refine s_ifc (q := .eq) (a := 0) rfl ⟨_, rfl⟩ rfl (by unfold sR aMi aMa; omega) (fun hc2 => ?_) (fun hc2 => ?_)
        · have hc2 : (0 : Int) = 0 := hc2
          refine s_inc (a := (b : Int)) (n := 1) (k := 3) rfl rfl rfl ?_
          refine sP 1 (g1 := (10, [some (.ref 3), some (sI ((s : Int))), some (sI ((a : Int))), some (sI (((b : Int)) + 1))], [], h)) rfl ?_
          rw [show ((b : Int) + 1) = ((b + 1 : Nat) : Int) by omega]
          exact r0
        · have hc2 : ¬ ((0 : Int) = 0) := hc2
          omega
theorem fFaO {n s : Nat} (hh : aHp h) (hn : hI h 3 3 = n) (hs : s < 64) : ∀ (k a : Nat) (X : Option Value), a + k = n → nRn sc (d + 5) (mMT mMe79) (mMC mMe79) (2, [some (.ref 3), some (sI (s : Int)), some (sI (a : Int)), X], [], h) (some (sI (oF (agX h n s) n k a)), h) := by
  have gp := hI_rg hh xw_p
  intro k
  induction k with
  | zero =>
    intro a X hb
    have hbn : a = n := by omega
    subst hbn
    refine sP 2 (g1 := (4, [some (.ref 3), some (sI ((s : Int))), some (sI ((a : Int))), X], [.ref 3, sI ((a : Int))], h)) rfl ?_
    refine s_get (a := 3) (j := 3) hh rfl ⟨_, rfl⟩ rfl rfl rfl (v := sI (hI h 3 3)) (hI_ok hh xw_p) ?_
    refine s_icmp (q := .ge) (a := (a : Int)) (b := hI h 3 3) rfl ⟨_, rfl⟩ rfl (by unfold sR aMi aMa; omega) (by unfold sR aMi aMa; omega) (fun hc1 => ?_) (fun hc1 => ?_)
    · have hc1 : ((hI h 3 3) : Int) ≤ ((a : Int)) := hc1
      refine sP 1 (g1 := (31, [some (.ref 3), some (sI ((s : Int))), some (sI ((a : Int))), X], [sI ((-9))], h)) rfl ?_
      exact s_reti rfl rfl (Or.inl rfl) rfl rfl
    · have hc1 : ¬ (((hI h 3 3) : Int) ≤ ((a : Int))) := hc1
      omega
  | succ k ih =>
    intro a X hb
    have e1 : oF (agX h n s) n (k + 1) a = if iF (agX h n s) a (n - (a + 1)) (a + 1) = -9 then oF (agX h n s) n k (a + 1) else iF (agX h n s) a (n - (a + 1)) (a + 1) := rfl
    have r1 := ih (a + 1) (some (sI (n : Int))) (by omega)
    rw [e1]
    have r2 := fFaI (sc := sc) (d := d) hh hn (show a < n by omega) hs (n - (a + 1)) (a + 1) (by omega)
    refine sP 2 (g1 := (4, [some (.ref 3), some (sI ((s : Int))), some (sI ((a : Int))), X], [.ref 3, sI ((a : Int))], h)) rfl ?_
    refine s_get (a := 3) (j := 3) hh rfl ⟨_, rfl⟩ rfl rfl rfl (v := sI (hI h 3 3)) (hI_ok hh xw_p) ?_
    refine s_icmp (q := .ge) (a := (a : Int)) (b := hI h 3 3) rfl ⟨_, rfl⟩ rfl (by unfold sR aMi aMa; omega) (by unfold sR aMi aMa; omega) (fun hc1 => ?_) (fun hc1 => ?_)
    · have hc1 : ((hI h 3 3) : Int) ≤ ((a : Int)) := hc1
      omega
    · have hc1 : ¬ (((hI h 3 3) : Int) ≤ ((a : Int))) := hc1
      refine sP 2 (g1 := (8, [some (.ref 3), some (sI ((s : Int))), some (sI ((a : Int))), X], [sI 1, sI ((a : Int))], h)) rfl ?_
      refine s_add (a := (a : Int)) (b := 1) rfl rfl ?_
      refine sP 1 (g1 := (10, [some (.ref 3), some (sI ((s : Int))), some (sI ((a : Int))), some (sI (((a : Int)) + 1))], [], h)) rfl ?_
      rw [show ((a : Int) + 1) = ((a + 1 : Nat) : Int) by omega]
      refine r2 _ (fun w => ?_) (fun w => by rw [if_neg w])
      rw [if_pos w]
      refine s_inc (a := (a : Int)) (n := 1) (k := 2) rfl rfl rfl ?_
      refine sP 1 (g1 := (2, [some (.ref 3), some (sI ((s : Int))), some (sI (((a : Int)) + 1)), some (sI ((n : Int)))], [], h)) rfl ?_
      rw [show ((a : Int) + 1) = ((a + 1 : Nat) : Int) by omega]
      exact r1
theorem fFirstAg {n s : Nat} (hh : aHp h) (hn : hI h 3 3 = n) (hs : s < 64) : nEv sc (d + 6) 79 [.ref 3, sI (s : Int)] h (some (sI (oF (agX h n s) n n 0)), h) := by
  have r1 := fFaO (sc := sc) (d := d) hh hn hs n 0 none (by omega)
  refine nEv_of (t := mMe79) rfl ?_
  show nRn sc (d + 5) (mMT mMe79) (mMC mMe79) (0, [some (.ref 3), some (sI (s : Int)), none, none], [], h) _
  refine sP 2 (g1 := (2, [some (.ref 3), some (sI (s : Int)), some (sI ((0 : Nat) : Int)), none], [], h)) rfl ?_
  exact r1
/-! pairs, in the reference: its field of the first pair changes -/
noncomputable def fpOff (h g : mH) : Prop := ∀ p m, ¬ (p = 53 ∧ m = 14) → aSlot g p m = aSlot h p m
theorem fp_z : zCell 53 14 (-2147483648) 2147483647 = true := by decide +kernel
theorem fp_i : zIn 53 14 (-2147483648) 2147483647 = true := by decide +kernel
theorem fp_sM {g : mH} (ho : fpOff h g) (n a s : Nat) : sM g n a s = sM h n a s := by
  have e1 : (fun j => hI g 58 (7 + j)) = (fun j => hI h 58 (7 + j)) := funext (fun j => hI_cg (ho 58 _ (by omega)))
  unfold sM
  rw [e1, hI_cg (ho 58 (1 + a) (by omega))]
theorem fPrI {n s a : Nat} (hh : aHp h) (hn : hI h 58 0 = n) (ha : a < n) (hs : s < 64) : ∀ (k b c : Nat) (g : mH), b + k = n → aHp g → fpOff h g → ∃ g1, aHp g1 ∧ fpOff h g1 ∧ hI g1 53 14 = (if hI g 53 14 = -9 then iF (agM h n s) a k b else hI g 53 14) ∧ ∀ r, nRn sc (d + 4) (mMT mMe185) (mMC mMe185) (54, [some (.ref 53), some (sI (s : Int)), some (sI ((c + iC (agM h n s) a k b : Nat) : Int)), some (sI (a : Int)), some (sI (n : Int))], [], g1) r → nRn sc (d + 4) (mMT mMe185) (mMC mMe185) (17, [some (.ref 53), some (sI (s : Int)), some (sI (c : Int)), some (sI (a : Int)), some (sI (b : Int))], [], g) r := by
  have gp := hI_rg hh nw_p
  intro k
  induction k with
  | zero =>
    intro b c g hb hg ho
    have hbn : b = n := by omega
    subst hbn
    have en : hI g 58 0 = hI h 58 0 := hI_cg (ho 58 0 (by omega))
    refine ⟨g, hg, ho, ?_, fun r r1 => ?_⟩
    · split
      · assumption
      · rfl
    have r1 : nRn sc (d + 4) (mMT mMe185) (mMC mMe185) (54, [some (.ref 53), some (sI (s : Int)), some (sI (c : Int)), some (sI (a : Int)), some (sI (b : Int))], [], g) r := r1
    refine sP 2 (g1 := (19, [some (.ref 53), some (sI ((s : Int))), some (sI ((c : Int))), some (sI ((a : Int))), some (sI ((b : Int)))], [.ref 53, sI ((b : Int))], g)) rfl ?_
    refine s_get (a := 53) (j := 4) hg rfl ⟨_, rfl⟩ rfl rfl rfl (v := .ref 58) (hR_ok hg (by decide +kernel)) ?_
    refine sP 1 (g1 := (21, [some (.ref 53), some (sI ((s : Int))), some (sI ((c : Int))), some (sI ((a : Int))), some (sI ((b : Int)))], [sI 0, .ref 58, sI ((b : Int))], g)) rfl ?_
    refine s_iald (a := 58) (n := 201) (j := 0) hg rfl rfl rfl (by omega) (by omega) (by decide) (v := sI (hI g 58 0)) (hI_ok hg nw_p) ?_
    refine s_icmp (q := .ge) (a := (b : Int)) (b := hI g 58 0) rfl ⟨_, rfl⟩ rfl (by unfold sR aMi aMa; omega) (by unfold sR aMi aMa; omega) (fun hc1 => ?_) (fun hc1 => ?_)
    · have hc1 : ((hI g 58 0) : Int) ≤ ((b : Int)) := hc1
      exact r1
    · have hc1 : ¬ (((hI g 58 0) : Int) ≤ ((b : Int))) := hc1
      omega
  | succ k ih =>
    intro b c g hb hg ho
    have en : hI g 58 0 = hI h 58 0 := hI_cg (ho 58 0 (by omega))
    have va := fHas (sc := sc) (d := d + 3) (h := g) (s := s) (a := a) hs (by omega)
    have vb := fHas (sc := sc) (d := d + 3) (h := g) (s := s) (a := b) hs (by omega)
    have ev := fAgrM (sc := sc) (d := d) (n := n) (a := a) (b := b) (s := s) hg (by omega) (by omega) (by omega) hs
    rw [fp_sM ho, fp_sM ho] at ev
    have hq := @pAg_uv (sM h n a s) (sM h n b s) (bt s a) (bt s b)
    have e1 : iC (agM h n s) a (k + 1) b = (if agM h n s a b = true then 1 else 0) + iC (agM h n s) a k (b + 1) := rfl
    have e2 : iF (agM h n s) a (k + 1) b = if agM h n s a b = true then 6 * (a : Int) + (b : Int) else iF (agM h n s) a k (b + 1) := rfl
    have gf := hI_rg hg fp_z
    by_cases hc : agM h n s a b = true
    · obtain ⟨u1, u2, u3⟩ := hq.mp hc
      rw [if_pos u1] at va
      rw [if_pos u2] at vb
      rw [if_pos u3] at ev
      rw [if_pos hc] at e1 e2
      obtain ⟨F, eF⟩ : ∃ F, (if hI g 53 14 = -9 then 6 * (a : Int) + (b : Int) else hI g 53 14) = F := ⟨_, rfl⟩
      have rF : -2147483648 ≤ F ∧ F ≤ 2147483647 := by rw [← eF]; split <;> omega
      have nF : F ≠ -9 := by rw [← eF]; split <;> omega
      obtain ⟨g1, eg1⟩ : ∃ gz, gz = hset g 53 14 (sI F) := ⟨_, rfl⟩
      have sg1 : ∀ xa xm, aSlot g1 xa xm = if xa = 53 ∧ xm = 14 then some (sI F) else aSlot g xa xm := fun xa xm => by rw [eg1]; exact hset_slot hg (show sTg 53 = some (7, 21) from rfl) (by omega) xa xm
      have hg1 : aHp g1 := by rw [eg1]; exact hset_ii hg fp_i rF.1 rF.2 (by unfold sR aMi aMa; omega)
      have ho1 : fpOff h g1 := fun p m w => by rw [sg1, if_neg w, ho p m w]
      obtain ⟨g2, i1, i2, i3, i4⟩ := ih (b + 1) (c + 1) g1 (by omega) hg1 ho1
      have e14 : hI g1 53 14 = F := hI_si (by rw [sg1, if_pos (by omega)]) (by unfold sR aMi aMa; omega)
      rw [e14, if_neg nF] at i3
      refine ⟨g2, i1, i2, by rw [i3, e2, eF], fun r r1 => ?_⟩
      rw [e1] at r1
      have r0 := i4 r (by rw [show c + 1 + iC (agM h n s) a k (b + 1) = c + (1 + iC (agM h n s) a k (b + 1)) by omega]; exact r1)
      refine sP 2 (g1 := (19, [some (.ref 53), some (sI ((s : Int))), some (sI ((c : Int))), some (sI ((a : Int))), some (sI ((b : Int)))], [.ref 53, sI ((b : Int))], g)) rfl ?_
      refine s_get (a := 53) (j := 4) hg rfl ⟨_, rfl⟩ rfl rfl rfl (v := .ref 58) (hR_ok hg (by decide +kernel)) ?_
      refine sP 1 (g1 := (21, [some (.ref 53), some (sI ((s : Int))), some (sI ((c : Int))), some (sI ((a : Int))), some (sI ((b : Int)))], [sI 0, .ref 58, sI ((b : Int))], g)) rfl ?_
      refine s_iald (a := 58) (n := 201) (j := 0) hg rfl rfl rfl (by omega) (by omega) (by decide) (v := sI (hI g 58 0)) (hI_ok hg nw_p) ?_
      refine s_icmp (q := .ge) (a := (b : Int)) (b := hI g 58 0) rfl ⟨_, rfl⟩ rfl (by unfold sR aMi aMa; omega) (by unfold sR aMi aMa; omega) (fun hc1 => ?_) (fun hc1 => ?_)
      · have hc1 : ((hI g 58 0) : Int) ≤ ((b : Int)) := hc1
        omega
      · have hc1 : ¬ (((hI g 58 0) : Int) ≤ ((b : Int))) := hc1
        refine sP 2 (g1 := (25, [some (.ref 53), some (sI ((s : Int))), some (sI ((c : Int))), some (sI ((a : Int))), some (sI ((b : Int)))], [sI ((a : Int)), sI ((s : Int))], g)) rfl ?_
        refine s_call (k := 149) (args := [sI ((s : Int)), sI ((a : Int))]) (st := []) (v := some (sI 1)) (h1 := g) rfl ⟨rfl, rfl⟩ rfl rfl rfl rfl rfl rfl va ?_
        refine s_ifc (q := .eq) (a := 1) rfl ⟨_, rfl⟩ rfl (by unfold sR aMi aMa; omega) (fun hc2 => ?_) (fun hc2 => ?_)
        · have hc2 : (1 : Int) = 0 := hc2
          omega
        · have hc2 : ¬ ((1 : Int) = 0) := hc2
          refine sP 2 (g1 := (29, [some (.ref 53), some (sI ((s : Int))), some (sI ((c : Int))), some (sI ((a : Int))), some (sI ((b : Int)))], [sI ((b : Int)), sI ((s : Int))], g)) rfl ?_
          refine s_call (k := 149) (args := [sI ((s : Int)), sI ((b : Int))]) (st := []) (v := some (sI 1)) (h1 := g) rfl ⟨rfl, rfl⟩ rfl rfl rfl rfl rfl rfl vb ?_
          refine s_ifc (q := .eq) (a := 1) rfl ⟨_, rfl⟩ rfl (by unfold sR aMi aMa; omega) (fun hc3 => ?_) (fun hc3 => ?_)
          · have hc3 : (1 : Int) = 0 := hc3
            omega
          · have hc3 : ¬ ((1 : Int) = 0) := hc3
            refine sP 4 (g1 := (35, [some (.ref 53), some (sI ((s : Int))), some (sI ((c : Int))), some (sI ((a : Int))), some (sI ((b : Int)))], [sI ((s : Int)), sI ((b : Int)), sI ((a : Int)), .ref 53], g)) rfl ?_
            refine s_call (k := 171) (args := [.ref 53, sI ((a : Int)), sI ((b : Int)), sI ((s : Int))]) (st := []) (v := some (sI 1)) (h1 := g) rfl ⟨rfl, rfl⟩ rfl rfl rfl rfl (sRcv hg (a := 53) rfl rfl) rfl ev ?_
            refine s_ifc (q := .eq) (a := 1) rfl ⟨_, rfl⟩ rfl (by unfold sR aMi aMa; omega) (fun hc4 => ?_) (fun hc4 => ?_)
            · have hc4 : (1 : Int) = 0 := hc4
              omega
            · have hc4 : ¬ ((1 : Int) = 0) := hc4
              refine s_inc (a := (c : Int)) (n := 1) (k := 2) rfl rfl rfl ?_
              refine sP 2 (g1 := (40, [some (.ref 53), some (sI ((s : Int))), some (sI (((c : Int)) + 1)), some (sI ((a : Int))), some (sI ((b : Int)))], [.ref 53, .ref 53], g)) rfl ?_
              refine s_get (a := 53) (j := 14) hg rfl ⟨_, rfl⟩ rfl rfl rfl (v := sI (hI g 53 14)) (hI_ok hg fp_z) ?_
              refine sP 1 (g1 := (42, [some (.ref 53), some (sI ((s : Int))), some (sI (((c : Int)) + 1)), some (sI ((a : Int))), some (sI ((b : Int)))], [sI ((-9)), sI (hI g 53 14), .ref 53], g)) rfl ?_
              refine s_icmp (q := .ne) (a := hI g 53 14) (b := (-9)) rfl ⟨_, rfl⟩ rfl (by unfold sR aMi aMa; omega) (by unfold sR aMi aMa; omega) (fun hc5 => ?_) (fun hc5 => ?_)
              · have hc5 : ((hI g 53 14) : Int) ≠ ((-9)) := hc5
                refine sP 1 (g1 := (50, [some (.ref 53), some (sI ((s : Int))), some (sI (((c : Int)) + 1)), some (sI ((a : Int))), some (sI ((b : Int)))], [.ref 53, .ref 53], g)) rfl ?_
                refine s_get (a := 53) (j := 14) hg rfl ⟨_, rfl⟩ rfl rfl rfl (v := sI (hI g 53 14)) (hI_ok hg fp_z) ?_
                refine s_put (a := 53) (j := 14) (k := 7) (n := 21) hg rfl ⟨_, rfl⟩ (show sTg 53 = some (7, 21) from rfl) rfl rfl (by decide) rfl ?_
                rw [show (hI g 53 14 : Int) = F by rw [← eF]; first | rw [if_pos (by omega)] | rw [if_neg (by omega)]]
                rw [← eg1]
                refine s_inc (a := (b : Int)) (n := 1) (k := 4) rfl rfl rfl ?_
                refine sP 1 (g1 := (17, [some (.ref 53), some (sI ((s : Int))), some (sI (((c : Int)) + 1)), some (sI ((a : Int))), some (sI (((b : Int)) + 1))], [], g1)) rfl ?_
                rw [show ((b : Int) + 1) = ((b + 1 : Nat) : Int) by omega, show ((c : Int) + 1) = ((c + 1 : Nat) : Int) by omega]
                exact r0
              · have hc5 : ¬ (((hI g 53 14) : Int) ≠ ((-9))) := hc5
                refine sP 2 (g1 := (45, [some (.ref 53), some (sI ((s : Int))), some (sI (((c : Int)) + 1)), some (sI ((a : Int))), some (sI ((b : Int)))], [sI ((a : Int)), sI 6, .ref 53], g)) rfl ?_
                refine s_mul (a := 6) (b := (a : Int)) rfl rfl ?_
                refine sP 1 (g1 := (47, [some (.ref 53), some (sI ((s : Int))), some (sI (((c : Int)) + 1)), some (sI ((a : Int))), some (sI ((b : Int)))], [sI ((b : Int)), sI (6 * ((a : Int))), .ref 53], g)) rfl ?_
                refine s_add (a := 6 * ((a : Int))) (b := (b : Int)) rfl rfl ?_
                refine sP 1 (g1 := (51, [some (.ref 53), some (sI ((s : Int))), some (sI (((c : Int)) + 1)), some (sI ((a : Int))), some (sI ((b : Int)))], [sI ((6 * ((a : Int))) + ((b : Int))), .ref 53], g)) rfl ?_
                refine s_put (a := 53) (j := 14) (k := 7) (n := 21) hg rfl ⟨_, rfl⟩ (show sTg 53 = some (7, 21) from rfl) rfl rfl (by decide) rfl ?_
                rw [show ((6 * ((a : Int))) + ((b : Int)) : Int) = F by rw [← eF]; first | rw [if_pos (by omega)] | rw [if_neg (by omega)]]
                rw [← eg1]
                refine s_inc (a := (b : Int)) (n := 1) (k := 4) rfl rfl rfl ?_
                refine sP 1 (g1 := (17, [some (.ref 53), some (sI ((s : Int))), some (sI (((c : Int)) + 1)), some (sI ((a : Int))), some (sI (((b : Int)) + 1))], [], g1)) rfl ?_
                rw [show ((b : Int) + 1) = ((b + 1 : Nat) : Int) by omega, show ((c : Int) + 1) = ((c + 1 : Nat) : Int) by omega]
                exact r0
    · rw [if_neg hc] at e1 e2
      rw [Nat.zero_add] at e1
      obtain ⟨g2, i1, i2, i3, i4⟩ := ih (b + 1) c g (by omega) hg ho
      refine ⟨g2, i1, i2, by rw [i3, e2], fun r r1 => ?_⟩
      rw [e1] at r1
      have r0 := i4 r r1
      by_cases u1 : bt s a = true
      · rw [if_pos u1] at va
        by_cases u2 : bt s b = true
        · rw [if_pos u2] at vb
          rw [if_neg (fun u3 => hc (hq.mpr ⟨u1, u2, u3⟩))] at ev
          refine sP 2 (g1 := (19, [some (.ref 53), some (sI ((s : Int))), some (sI ((c : Int))), some (sI ((a : Int))), some (sI ((b : Int)))], [.ref 53, sI ((b : Int))], g)) rfl ?_
          refine s_get (a := 53) (j := 4) hg rfl ⟨_, rfl⟩ rfl rfl rfl (v := .ref 58) (hR_ok hg (by decide +kernel)) ?_
          refine sP 1 (g1 := (21, [some (.ref 53), some (sI ((s : Int))), some (sI ((c : Int))), some (sI ((a : Int))), some (sI ((b : Int)))], [sI 0, .ref 58, sI ((b : Int))], g)) rfl ?_
          refine s_iald (a := 58) (n := 201) (j := 0) hg rfl rfl rfl (by omega) (by omega) (by decide) (v := sI (hI g 58 0)) (hI_ok hg nw_p) ?_
          refine s_icmp (q := .ge) (a := (b : Int)) (b := hI g 58 0) rfl ⟨_, rfl⟩ rfl (by unfold sR aMi aMa; omega) (by unfold sR aMi aMa; omega) (fun hc1 => ?_) (fun hc1 => ?_)
          · have hc1 : ((hI g 58 0) : Int) ≤ ((b : Int)) := hc1
            omega
          · have hc1 : ¬ (((hI g 58 0) : Int) ≤ ((b : Int))) := hc1
            refine sP 2 (g1 := (25, [some (.ref 53), some (sI ((s : Int))), some (sI ((c : Int))), some (sI ((a : Int))), some (sI ((b : Int)))], [sI ((a : Int)), sI ((s : Int))], g)) rfl ?_
            refine s_call (k := 149) (args := [sI ((s : Int)), sI ((a : Int))]) (st := []) (v := some (sI 1)) (h1 := g) rfl ⟨rfl, rfl⟩ rfl rfl rfl rfl rfl rfl va ?_
            refine s_ifc (q := .eq) (a := 1) rfl ⟨_, rfl⟩ rfl (by unfold sR aMi aMa; omega) (fun hc2 => ?_) (fun hc2 => ?_)
            · have hc2 : (1 : Int) = 0 := hc2
              omega
            · have hc2 : ¬ ((1 : Int) = 0) := hc2
              refine sP 2 (g1 := (29, [some (.ref 53), some (sI ((s : Int))), some (sI ((c : Int))), some (sI ((a : Int))), some (sI ((b : Int)))], [sI ((b : Int)), sI ((s : Int))], g)) rfl ?_
              refine s_call (k := 149) (args := [sI ((s : Int)), sI ((b : Int))]) (st := []) (v := some (sI 1)) (h1 := g) rfl ⟨rfl, rfl⟩ rfl rfl rfl rfl rfl rfl vb ?_
              refine s_ifc (q := .eq) (a := 1) rfl ⟨_, rfl⟩ rfl (by unfold sR aMi aMa; omega) (fun hc3 => ?_) (fun hc3 => ?_)
              · have hc3 : (1 : Int) = 0 := hc3
                omega
              · have hc3 : ¬ ((1 : Int) = 0) := hc3
                refine sP 4 (g1 := (35, [some (.ref 53), some (sI ((s : Int))), some (sI ((c : Int))), some (sI ((a : Int))), some (sI ((b : Int)))], [sI ((s : Int)), sI ((b : Int)), sI ((a : Int)), .ref 53], g)) rfl ?_
                refine s_call (k := 171) (args := [.ref 53, sI ((a : Int)), sI ((b : Int)), sI ((s : Int))]) (st := []) (v := some (sI 0)) (h1 := g) rfl ⟨rfl, rfl⟩ rfl rfl rfl rfl (sRcv hg (a := 53) rfl rfl) rfl ev ?_
                refine s_ifc (q := .eq) (a := 0) rfl ⟨_, rfl⟩ rfl (by unfold sR aMi aMa; omega) (fun hc4 => ?_) (fun hc4 => ?_)
                · have hc4 : (0 : Int) = 0 := hc4
                  refine s_inc (a := (b : Int)) (n := 1) (k := 4) rfl rfl rfl ?_
                  refine sP 1 (g1 := (17, [some (.ref 53), some (sI ((s : Int))), some (sI ((c : Int))), some (sI ((a : Int))), some (sI (((b : Int)) + 1))], [], g)) rfl ?_
                  rw [show ((b : Int) + 1) = ((b + 1 : Nat) : Int) by omega]
                  exact r0
                · have hc4 : ¬ ((0 : Int) = 0) := hc4
                  omega
        · rw [if_neg u2] at vb
          refine sP 2 (g1 := (19, [some (.ref 53), some (sI ((s : Int))), some (sI ((c : Int))), some (sI ((a : Int))), some (sI ((b : Int)))], [.ref 53, sI ((b : Int))], g)) rfl ?_
          refine s_get (a := 53) (j := 4) hg rfl ⟨_, rfl⟩ rfl rfl rfl (v := .ref 58) (hR_ok hg (by decide +kernel)) ?_
          refine sP 1 (g1 := (21, [some (.ref 53), some (sI ((s : Int))), some (sI ((c : Int))), some (sI ((a : Int))), some (sI ((b : Int)))], [sI 0, .ref 58, sI ((b : Int))], g)) rfl ?_
          refine s_iald (a := 58) (n := 201) (j := 0) hg rfl rfl rfl (by omega) (by omega) (by decide) (v := sI (hI g 58 0)) (hI_ok hg nw_p) ?_
          refine s_icmp (q := .ge) (a := (b : Int)) (b := hI g 58 0) rfl ⟨_, rfl⟩ rfl (by unfold sR aMi aMa; omega) (by unfold sR aMi aMa; omega) (fun hc1 => ?_) (fun hc1 => ?_)
          · have hc1 : ((hI g 58 0) : Int) ≤ ((b : Int)) := hc1
            omega
          · have hc1 : ¬ (((hI g 58 0) : Int) ≤ ((b : Int))) := hc1
            refine sP 2 (g1 := (25, [some (.ref 53), some (sI ((s : Int))), some (sI ((c : Int))), some (sI ((a : Int))), some (sI ((b : Int)))], [sI ((a : Int)), sI ((s : Int))], g)) rfl ?_
            refine s_call (k := 149) (args := [sI ((s : Int)), sI ((a : Int))]) (st := []) (v := some (sI 1)) (h1 := g) rfl ⟨rfl, rfl⟩ rfl rfl rfl rfl rfl rfl va ?_
            refine s_ifc (q := .eq) (a := 1) rfl ⟨_, rfl⟩ rfl (by unfold sR aMi aMa; omega) (fun hc2 => ?_) (fun hc2 => ?_)
            · have hc2 : (1 : Int) = 0 := hc2
              omega
            · have hc2 : ¬ ((1 : Int) = 0) := hc2
              refine sP 2 (g1 := (29, [some (.ref 53), some (sI ((s : Int))), some (sI ((c : Int))), some (sI ((a : Int))), some (sI ((b : Int)))], [sI ((b : Int)), sI ((s : Int))], g)) rfl ?_
              refine s_call (k := 149) (args := [sI ((s : Int)), sI ((b : Int))]) (st := []) (v := some (sI 0)) (h1 := g) rfl ⟨rfl, rfl⟩ rfl rfl rfl rfl rfl rfl vb ?_
              refine s_ifc (q := .eq) (a := 0) rfl ⟨_, rfl⟩ rfl (by unfold sR aMi aMa; omega) (fun hc3 => ?_) (fun hc3 => ?_)
              · have hc3 : (0 : Int) = 0 := hc3
                refine s_inc (a := (b : Int)) (n := 1) (k := 4) rfl rfl rfl ?_
                refine sP 1 (g1 := (17, [some (.ref 53), some (sI ((s : Int))), some (sI ((c : Int))), some (sI ((a : Int))), some (sI (((b : Int)) + 1))], [], g)) rfl ?_
                rw [show ((b : Int) + 1) = ((b + 1 : Nat) : Int) by omega]
                exact r0
              · have hc3 : ¬ ((0 : Int) = 0) := hc3
                omega
      · rw [if_neg u1] at va
        refine sP 2 (g1 := (19, [some (.ref 53), some (sI ((s : Int))), some (sI ((c : Int))), some (sI ((a : Int))), some (sI ((b : Int)))], [.ref 53, sI ((b : Int))], g)) rfl ?_
        refine s_get (a := 53) (j := 4) hg rfl ⟨_, rfl⟩ rfl rfl rfl (v := .ref 58) (hR_ok hg (by decide +kernel)) ?_
        refine sP 1 (g1 := (21, [some (.ref 53), some (sI ((s : Int))), some (sI ((c : Int))), some (sI ((a : Int))), some (sI ((b : Int)))], [sI 0, .ref 58, sI ((b : Int))], g)) rfl ?_
        refine s_iald (a := 58) (n := 201) (j := 0) hg rfl rfl rfl (by omega) (by omega) (by decide) (v := sI (hI g 58 0)) (hI_ok hg nw_p) ?_
        refine s_icmp (q := .ge) (a := (b : Int)) (b := hI g 58 0) rfl ⟨_, rfl⟩ rfl (by unfold sR aMi aMa; omega) (by unfold sR aMi aMa; omega) (fun hc1 => ?_) (fun hc1 => ?_)
        · have hc1 : ((hI g 58 0) : Int) ≤ ((b : Int)) := hc1
          omega
        · have hc1 : ¬ (((hI g 58 0) : Int) ≤ ((b : Int))) := hc1
          refine sP 2 (g1 := (25, [some (.ref 53), some (sI ((s : Int))), some (sI ((c : Int))), some (sI ((a : Int))), some (sI ((b : Int)))], [sI ((a : Int)), sI ((s : Int))], g)) rfl ?_
          refine s_call (k := 149) (args := [sI ((s : Int)), sI ((a : Int))]) (st := []) (v := some (sI 0)) (h1 := g) rfl ⟨rfl, rfl⟩ rfl rfl rfl rfl rfl rfl va ?_
          refine s_ifc (q := .eq) (a := 0) rfl ⟨_, rfl⟩ rfl (by unfold sR aMi aMa; omega) (fun hc2 => ?_) (fun hc2 => ?_)
          · have hc2 : (0 : Int) = 0 := hc2
            refine s_inc (a := (b : Int)) (n := 1) (k := 4) rfl rfl rfl ?_
            refine sP 1 (g1 := (17, [some (.ref 53), some (sI ((s : Int))), some (sI ((c : Int))), some (sI ((a : Int))), some (sI (((b : Int)) + 1))], [], g)) rfl ?_
            rw [show ((b : Int) + 1) = ((b + 1 : Nat) : Int) by omega]
            exact r0
          · have hc2 : ¬ ((0 : Int) = 0) := hc2
            omega
theorem fPrO {n s : Nat} (hh : aHp h) (hn : hI h 58 0 = n) (hs : s < 64) : ∀ (k a c : Nat) (g : mH) (X : Option Value), a + k = n → aHp g → fpOff h g → ∃ g1, aHp g1 ∧ fpOff h g1 ∧ hI g1 53 14 = (if hI g 53 14 = -9 then oF (agM h n s) n k a else hI g 53 14) ∧ nRn sc (d + 4) (mMT mMe185) (mMC mMe185) (7, [some (.ref 53), some (sI (s : Int)), some (sI (c : Int)), some (sI (a : Int)), X], [], g) (some (sI ((c + oC (agM h n s) n k a : Nat) : Int)), g1) := by
  have gp := hI_rg hh nw_p
  intro k
  induction k with
  | zero =>
    intro a c g X hb hg ho
    have hbn : a = n := by omega
    subst hbn
    have en : hI g 58 0 = hI h 58 0 := hI_cg (ho 58 0 (by omega))
    refine ⟨g, hg, ho, ?_, ?_⟩
    · split
      · assumption
      · rfl
    refine sP 2 (g1 := (9, [some (.ref 53), some (sI ((s : Int))), some (sI ((c : Int))), some (sI ((a : Int))), X], [.ref 53, sI ((a : Int))], g)) rfl ?_
    refine s_get (a := 53) (j := 4) hg rfl ⟨_, rfl⟩ rfl rfl rfl (v := .ref 58) (hR_ok hg (by decide +kernel)) ?_
    refine sP 1 (g1 := (11, [some (.ref 53), some (sI ((s : Int))), some (sI ((c : Int))), some (sI ((a : Int))), X], [sI 0, .ref 58, sI ((a : Int))], g)) rfl ?_
    refine s_iald (a := 58) (n := 201) (j := 0) hg rfl rfl rfl (by omega) (by omega) (by decide) (v := sI (hI g 58 0)) (hI_ok hg nw_p) ?_
    refine s_icmp (q := .ge) (a := (a : Int)) (b := hI g 58 0) rfl ⟨_, rfl⟩ rfl (by unfold sR aMi aMa; omega) (by unfold sR aMi aMa; omega) (fun hc1 => ?_) (fun hc1 => ?_)
    · have hc1 : ((hI g 58 0) : Int) ≤ ((a : Int)) := hc1
      refine sP 1 (g1 := (57, [some (.ref 53), some (sI ((s : Int))), some (sI ((c : Int))), some (sI ((a : Int))), X], [sI ((c : Int))], g)) rfl ?_
      exact s_reti rfl rfl (Or.inl rfl) rfl rfl
    · have hc1 : ¬ (((hI g 58 0) : Int) ≤ ((a : Int))) := hc1
      omega
  | succ k ih =>
    intro a c g X hb hg ho
    have en : hI g 58 0 = hI h 58 0 := hI_cg (ho 58 0 (by omega))
    have e1 : oC (agM h n s) n (k + 1) a = iC (agM h n s) a (n - (a + 1)) (a + 1) + oC (agM h n s) n k (a + 1) := rfl
    have e2 : oF (agM h n s) n (k + 1) a = if iF (agM h n s) a (n - (a + 1)) (a + 1) = -9 then oF (agM h n s) n k (a + 1) else iF (agM h n s) a (n - (a + 1)) (a + 1) := rfl
    obtain ⟨g1, i1, i2, i3, i4⟩ := fPrI (sc := sc) (d := d) hh hn (show a < n by omega) hs (n - (a + 1)) (a + 1) c g (by omega) hg ho
    obtain ⟨g2, j1, j2, j3, r1⟩ := ih (a + 1) (c + iC (agM h n s) a (n - (a + 1)) (a + 1)) g1 (some (sI (n : Int))) (by omega) i1 i2
    refine ⟨g2, j1, j2, ?_, ?_⟩
    · rw [j3, i3, e2]
      by_cases w : hI g 53 14 = -9
      · rw [if_pos w, if_pos w]
      · rw [if_neg w, if_neg w, if_neg w]
    rw [e1, ← Nat.add_assoc]
    refine sP 2 (g1 := (9, [some (.ref 53), some (sI ((s : Int))), some (sI ((c : Int))), some (sI ((a : Int))), X], [.ref 53, sI ((a : Int))], g)) rfl ?_
    refine s_get (a := 53) (j := 4) hg rfl ⟨_, rfl⟩ rfl rfl rfl (v := .ref 58) (hR_ok hg (by decide +kernel)) ?_
    refine sP 1 (g1 := (11, [some (.ref 53), some (sI ((s : Int))), some (sI ((c : Int))), some (sI ((a : Int))), X], [sI 0, .ref 58, sI ((a : Int))], g)) rfl ?_
    refine s_iald (a := 58) (n := 201) (j := 0) hg rfl rfl rfl (by omega) (by omega) (by decide) (v := sI (hI g 58 0)) (hI_ok hg nw_p) ?_
    refine s_icmp (q := .ge) (a := (a : Int)) (b := hI g 58 0) rfl ⟨_, rfl⟩ rfl (by unfold sR aMi aMa; omega) (by unfold sR aMi aMa; omega) (fun hc1 => ?_) (fun hc1 => ?_)
    · have hc1 : ((hI g 58 0) : Int) ≤ ((a : Int)) := hc1
      omega
    · have hc1 : ¬ (((hI g 58 0) : Int) ≤ ((a : Int))) := hc1
      refine sP 2 (g1 := (15, [some (.ref 53), some (sI ((s : Int))), some (sI ((c : Int))), some (sI ((a : Int))), X], [sI 1, sI ((a : Int))], g)) rfl ?_
      refine s_add (a := (a : Int)) (b := 1) rfl rfl ?_
      refine sP 1 (g1 := (17, [some (.ref 53), some (sI ((s : Int))), some (sI ((c : Int))), some (sI ((a : Int))), some (sI (((a : Int)) + 1))], [], g)) rfl ?_
      rw [show ((a : Int) + 1) = ((a + 1 : Nat) : Int) by omega]
      refine i4 _ ?_
      refine s_inc (a := (a : Int)) (n := 1) (k := 3) rfl rfl rfl ?_
      refine sP 1 (g1 := (7, [some (.ref 53), some (sI ((s : Int))), some (sI (((c + iC (agM h n s) a (n - (a + 1)) (a + 1) : Nat) : Int))), some (sI (((a : Int)) + 1)), some (sI ((n : Int)))], [], g1)) rfl ?_
      rw [show ((a : Int) + 1) = ((a + 1 : Nat) : Int) by omega]
      exact r1
theorem fPairs {n s : Nat} (hh : aHp h) (hn : hI h 58 0 = n) (hs : s < 64) : ∃ g, nEv sc (d + 5) 185 [.ref 53, sI (s : Int)] h (some (sI ((oC (agM h n s) n n 0 : Nat) : Int)), g) ∧ aHp g ∧ fpOff h g ∧ hI g 53 14 = oF (agM h n s) n n 0 := by
  obtain ⟨g1, eg1⟩ : ∃ gz, gz = hset h 53 14 (sI (-9)) := ⟨_, rfl⟩
  have sg1 : ∀ xa xm, aSlot g1 xa xm = if xa = 53 ∧ xm = 14 then some (sI (-9)) else aSlot h xa xm := fun xa xm => by rw [eg1]; exact hset_slot hh (show sTg 53 = some (7, 21) from rfl) (by omega) xa xm
  have hg1 : aHp g1 := by rw [eg1]; exact hset_ii hh fp_i (by omega) (by omega) (by unfold sR aMi aMa; omega)
  have ho1 : fpOff h g1 := fun p m w => by rw [sg1, if_neg w]
  obtain ⟨g, i1, i2, i3, r1⟩ := fPrO (sc := sc) (d := d) hh hn hs n 0 0 g1 none (by omega) hg1 ho1
  have e14 : hI g1 53 14 = -9 := hI_si (by rw [sg1, if_pos (by omega)]) (by unfold sR aMi aMa; omega)
  rw [e14, if_pos rfl] at i3
  rw [Nat.zero_add] at r1
  refine ⟨g, nEv_of (t := mMe185) rfl ?_, i1, i2, i3⟩
  show nRn sc (d + 4) (mMT mMe185) (mMC mMe185) (0, [some (.ref 53), some (sI ((s : Int))), none, none, none], [], h) _
  refine sP 4 (g1 := (4, [some (.ref 53), some (sI ((s : Int))), some (sI 0), none, none], [sI ((-9)), .ref 53], h)) rfl ?_
  refine s_put (a := 53) (j := 14) (k := 7) (n := 21) hh rfl ⟨_, rfl⟩ (show sTg 53 = some (7, 21) from rfl) rfl rfl (by decide) rfl ?_
  rw [← eg1]
  refine sP 2 (g1 := (7, [some (.ref 53), some (sI ((s : Int))), some (sI 0), some (sI 0), none], [], g1)) rfl ?_
  exact r1
end PAIRS

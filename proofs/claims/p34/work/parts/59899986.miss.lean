/-! missions -/
noncomputable def tnB (W b p : Int) : Int := if b = -9 ∨ (W ≠ 0 ∧ b < p) ∨ (W = 0 ∧ p < b) then p else b
noncomputable def tnF (s : Nat) (W : Int) (v : Nat → Int) : Nat → Nat → Int → Int
  | 0, _, b => b
  | k + 1, a, b => tnF s W v k (a + 1) (if bt s a = true then b else tnB W b (v (s ||| 2 ^ a)))
noncomputable def tnV (ag : Nat → Int) (n : Nat) : Nat → Nat → Int
  | 0, s => ag s
  | l + 1, s => if s + 1 = 2 ^ n then ag s else tnF s (1 - ((l + 1 : Nat) : Int) % 2) (tnV ag n l) n 0 (-9)
theorem tnB_rg {W b p : Int} (h1 : -9 ≤ b ∧ b ≤ 100) (h2 : -9 ≤ p ∧ p ≤ 100) : -9 ≤ tnB W b p ∧ tnB W b p ≤ 100 := by
  unfold tnB
  split
  · exact h2
  · exact h1
theorem tnF_rg {s : Nat} {W : Int} {v : Nat → Int} (hv : ∀ x, -9 ≤ v x ∧ v x ≤ 100) : ∀ k a b, -9 ≤ b ∧ b ≤ 100 → -9 ≤ tnF s W v k a b ∧ tnF s W v k a b ≤ 100
  | 0, _, _, h => h
  | k + 1, a, b, h => by
    unfold tnF
    refine tnF_rg hv k (a + 1) _ ?_
    split
    · exact h
    · exact tnB_rg h (hv _)
theorem tnV_rg {ag : Nat → Int} {n : Nat} (hv : ∀ x, -9 ≤ ag x ∧ ag x ≤ 100) : ∀ l s, -9 ≤ tnV ag n l s ∧ tnV ag n l s ≤ 100
  | 0, s => hv s
  | l + 1, s => by
    unfold tnV
    split
    · exact hv s
    · exact tnF_rg (tnV_rg hv l) _ _ _ (by omega)
theorem tnF_cg {s : Nat} {W : Int} {v w : Nat → Int} (hv : ∀ x, v x = w x) (k a : Nat) (b : Int) : tnF s W v k a b = tnF s W w k a b := by rw [funext hv]
theorem tnV_full {ag : Nat → Int} {n s : Nat} (hf : s + 1 = 2 ^ n) : ∀ l, tnV ag n l s = ag s
  | 0 => rfl
  | l + 1 => by
    unfold tnV
    rw [if_pos hf]
noncomputable def tnD (n s t : Nat) : Bool := if t < n then !bt s t else decide (s + 1 = 2 ^ n)
noncomputable def tnS (n s t : Nat) : Nat := if t < n then s ||| 2 ^ t else s
noncomputable def tnG (n s : Nat) (W : Int) (v : Nat → Int) : Nat → Nat → Int → Int
  | 0, _, b => b
  | k + 1, t, b => tnG n s W v k (t + 1) (if tnD n s t = true then tnB W b (v (tnS n s t)) else b)
theorem tnG_F {n s : Nat} {W : Int} {v : Nat → Int} : ∀ (k t : Nat) (b : Int), t + k = n → tnG n s W v (k + 1) t b = if s + 1 = 2 ^ n then tnB W (tnF s W v k t b) (v s) else tnF s W v k t b
  | 0, t, b, h => by
    have ht : ¬ t < n := by omega
    show (if tnD n s t = true then tnB W b (v (tnS n s t)) else b) = if s + 1 = 2 ^ n then tnB W b (v s) else b
    unfold tnD tnS
    rw [if_neg ht, if_neg ht]
    by_cases hf : s + 1 = 2 ^ n
    · rw [if_pos (decide_eq_true hf), if_pos hf]
    · rw [if_neg (by rw [decide_eq_true_iff]; exact hf), if_neg hf]
  | k + 1, t, b, h => by
    have ht : t < n := by omega
    have ih := tnG_F (n := n) (s := s) (W := W) (v := v) k (t + 1)
    have e1 : tnG n s W v (k + 1 + 1) t b = tnG n s W v (k + 1) (t + 1) (if tnD n s t = true then tnB W b (v (tnS n s t)) else b) := rfl
    have e2 : tnF s W v (k + 1) t b = tnF s W v k (t + 1) (if bt s t = true then b else tnB W b (v (s ||| 2 ^ t))) := rfl
    have e3 : (if tnD n s t = true then tnB W b (v (tnS n s t)) else b) = if bt s t = true then b else tnB W b (v (s ||| 2 ^ t)) := by
      unfold tnD tnS
      rw [if_pos ht, if_pos ht]
      cases bt s t <;> rfl
    rw [e1, e2, ← e3]
    exact ih _ (by omega)
theorem tnF_id {n s : Nat} {W : Int} {v : Nat → Int} (hb : ∀ a, a < n → bt s a = true) : ∀ (k a : Nat) (b : Int), a + k = n → tnF s W v k a b = b
  | 0, _, _, _ => rfl
  | k + 1, a, b, h => by
    unfold tnF
    rw [if_pos (hb a (by omega))]
    exact tnF_id hb k (a + 1) b (by omega)
theorem bt_full : ∀ n, n < 7 → ∀ s, s < 64 → s + 1 = 2 ^ n → ∀ a, a < 6 → a < n → bt s a = true := by decide +kernel
theorem tnG_V {ag : Nat → Int} {n s l : Nat} (hn : n ≤ 6) (hs : s < 64) : tnG n s (1 - ((l + 1 : Nat) : Int) % 2) (tnV ag n l) (n + 1) 0 (-9) = tnV ag n (l + 1) s := by
  rw [tnG_F n 0 (-9) (by omega)]
  show _ = if s + 1 = 2 ^ n then ag s else tnF s (1 - ((l + 1 : Nat) : Int) % 2) (tnV ag n l) n 0 (-9)
  by_cases hf : s + 1 = 2 ^ n
  · rw [if_pos hf, if_pos hf, tnF_id (fun a ha => bt_full n (by omega) s hs hf a (by omega) ha) n 0 _ (by omega), tnV_full hf]
    unfold tnB
    rw [if_pos (Or.inl rfl)]
  · rw [if_neg hf, if_neg hf]
section MISS
variable {sc : List Int32} {d : Nat} {h : mH}
theorem fAtI {n l s : Nat} {W : Int} {v : Nat → Int} (hh : aHp h) (hn : hI h 3 3 = n) (hs : s < 64) (hl : l < 4) (w0 : 0 ≤ W) (w1 : W ≤ 1) (hr : ∀ x, -9 ≤ v x ∧ v x ≤ 100) (hv : ∀ x : Nat, x < 64 → nEv sc (d + 1) 102 [.ref 3, sI (x : Int), sI (l : Int)] h (some (sI (v x)), h)) : ∀ (k a : Nat) (b : Int) (X : Option Value), a + k = n → -9 ≤ b ∧ b ≤ 100 → nRn sc (d + 1) (mMT mMe102) (mMC mMe102) (26, [some (.ref 3), some (sI (s : Int)), some (sI ((l + 1 : Nat) : Int)), some (sI W), some (sI b), some (sI (a : Int)), X], [], h) (some (sI (tnF s W v k a b)), h) := by
  have gp := hI_rg hh xw_p
  intro k
  induction k with
  | zero =>
    intro a b X ha rb
    have han : a = n := by omega
    subst han
    refine sP 2 (g1 := (28, [some (.ref 3), some (sI ((s : Int))), some (sI (((l + 1 : Nat) : Int))), some (sI W), some (sI b), some (sI ((a : Int))), X], [.ref 3, sI ((a : Int))], h)) rfl ?_
    refine s_get (a := 3) (j := 3) hh rfl ⟨_, rfl⟩ rfl rfl rfl (v := sI ((a : Int))) (by have q := hI_ok hh xw_p; rw [hn] at q; exact q) ?_
    refine s_icmp (q := .ge) (a := (a : Int)) (b := (a : Int)) rfl ⟨_, rfl⟩ rfl (by unfold sR aMi aMa; omega) (by unfold sR aMi aMa; omega) (fun hc1 => ?_) (fun hc1 => ?_)
    · have hc1 : (((a : Int)) : Int) ≤ ((a : Int)) := hc1
      refine sP 1 (g1 := (62, [some (.ref 3), some (sI ((s : Int))), some (sI (((l + 1 : Nat) : Int))), some (sI W), some (sI b), some (sI ((a : Int))), X], [sI b], h)) rfl ?_
      exact s_reti rfl rfl (Or.inl rfl) rfl rfl
    · have hc1 : ¬ ((((a : Int)) : Int) ≤ ((a : Int))) := hc1
      omega
  | succ k ih =>
    intro a b X ha rb
    have a6 : a < 6 := by omega
    have vi := fIsIn (sc := sc) (d := d) (h := h) (s := s) (a := a) hs a6
    have e1 : tnF s W v (k + 1) a b = tnF s W v k (a + 1) (if bt s a = true then b else tnB W b (v (s ||| 2 ^ a))) := rfl
    rw [e1]
    by_cases hc : bt s a = true
    · rw [if_pos hc] at vi
      rw [if_pos hc]
      have r0 := ih (a + 1) b X (by omega) rb
      refine sP 2 (g1 := (28, [some (.ref 3), some (sI ((s : Int))), some (sI (((l + 1 : Nat) : Int))), some (sI W), some (sI b), some (sI ((a : Int))), X], [.ref 3, sI ((a : Int))], h)) rfl ?_
      refine s_get (a := 3) (j := 3) hh rfl ⟨_, rfl⟩ rfl rfl rfl (v := sI ((n : Int))) (by have q := hI_ok hh xw_p; rw [hn] at q; exact q) ?_
      refine s_icmp (q := .ge) (a := (a : Int)) (b := (n : Int)) rfl ⟨_, rfl⟩ rfl (by unfold sR aMi aMa; omega) (by unfold sR aMi aMa; omega) (fun hc1 => ?_) (fun hc1 => ?_)
      · have hc1 : (((n : Int)) : Int) ≤ ((a : Int)) := hc1
        omega
      · have hc1 : ¬ ((((n : Int)) : Int) ≤ ((a : Int))) := hc1
        refine sP 2 (g1 := (32, [some (.ref 3), some (sI ((s : Int))), some (sI (((l + 1 : Nat) : Int))), some (sI W), some (sI b), some (sI ((a : Int))), X], [sI ((a : Int)), sI ((s : Int))], h)) rfl ?_
        refine s_call (k := 39) (args := [sI ((s : Int)), sI ((a : Int))]) (st := []) (v := some (sI 1)) (h1 := h) rfl ⟨rfl, rfl⟩ rfl rfl rfl rfl rfl rfl vi ?_
        refine s_ifc (q := .ne) (a := 1) rfl ⟨_, rfl⟩ rfl (by unfold sR aMi aMa; omega) (fun hc2 => ?_) (fun hc2 => ?_)
        · have hc2 : (1 : Int) ≠ 0 := hc2
          refine s_inc (a := (a : Int)) (n := 1) (k := 5) rfl rfl rfl ?_
          refine sP 1 (g1 := (26, [some (.ref 3), some (sI ((s : Int))), some (sI (((l + 1 : Nat) : Int))), some (sI W), some (sI b), some (sI (((a : Int)) + 1)), X], [], h)) rfl ?_
          rw [show ((a : Int) + 1) = ((a + 1 : Nat) : Int) by omega]
          exact r0
        · have hc2 : ¬ ((1 : Int) ≠ 0) := hc2
          omega
    · rw [if_neg hc] at vi
      rw [if_neg hc]
      have ev := hv (s ||| 2 ^ a) (or6_lt hs (p26_lt a6))
      have rp := hr (s ||| 2 ^ a)
      generalize v (s ||| 2 ^ a) = p at *
      have r0 := ih (a + 1) (tnB W b p) (some (sI p)) (by omega) (tnB_rg rb rp)
      refine sP 2 (g1 := (28, [some (.ref 3), some (sI ((s : Int))), some (sI (((l + 1 : Nat) : Int))), some (sI W), some (sI b), some (sI ((a : Int))), X], [.ref 3, sI ((a : Int))], h)) rfl ?_
      refine s_get (a := 3) (j := 3) hh rfl ⟨_, rfl⟩ rfl rfl rfl (v := sI ((n : Int))) (by have q := hI_ok hh xw_p; rw [hn] at q; exact q) ?_
      refine s_icmp (q := .ge) (a := (a : Int)) (b := (n : Int)) rfl ⟨_, rfl⟩ rfl (by unfold sR aMi aMa; omega) (by unfold sR aMi aMa; omega) (fun hc1 => ?_) (fun hc1 => ?_)
      · have hc1 : (((n : Int)) : Int) ≤ ((a : Int)) := hc1
        omega
      · have hc1 : ¬ ((((n : Int)) : Int) ≤ ((a : Int))) := hc1
        refine sP 2 (g1 := (32, [some (.ref 3), some (sI ((s : Int))), some (sI (((l + 1 : Nat) : Int))), some (sI W), some (sI b), some (sI ((a : Int))), X], [sI ((a : Int)), sI ((s : Int))], h)) rfl ?_
        refine s_call (k := 39) (args := [sI ((s : Int)), sI ((a : Int))]) (st := []) (v := some (sI 0)) (h1 := h) rfl ⟨rfl, rfl⟩ rfl rfl rfl rfl rfl rfl vi ?_
        refine s_ifc (q := .ne) (a := 0) rfl ⟨_, rfl⟩ rfl (by unfold sR aMi aMa; omega) (fun hc2 => ?_) (fun hc2 => ?_)
        · have hc2 : (0 : Int) ≠ 0 := hc2
          omega
        · have hc2 : ¬ ((0 : Int) ≠ 0) := hc2
          refine sP 4 (g1 := (38, [some (.ref 3), some (sI ((s : Int))), some (sI (((l + 1 : Nat) : Int))), some (sI W), some (sI b), some (sI ((a : Int))), X], [sI ((a : Int)), sI 1, sI ((s : Int)), .ref 3], h)) rfl ?_
          refine s_shl7 (a := a) rfl rfl (by omega) ?_
          refine s_b1 rfl rfl (b_or6 s hs (2 ^ a) (p26_lt a6)) ?_
          refine sP 2 (g1 := (42, [some (.ref 3), some (sI ((s : Int))), some (sI (((l + 1 : Nat) : Int))), some (sI W), some (sI b), some (sI ((a : Int))), X], [sI 1, sI (((l + 1 : Nat) : Int)), sI (((s ||| 2 ^ a : Nat) : Int)), .ref 3], h)) rfl ?_
          refine s_sub (a := ((l + 1 : Nat) : Int)) (b := 1) rfl rfl ?_
          rw [show (((l + 1 : Nat) : Int) - 1) = (l : Int) by omega]
          refine s_call (k := 102) (args := [.ref 3, sI (((s ||| 2 ^ a : Nat) : Int)), sI ((l : Int))]) (st := []) (v := some (sI p)) (h1 := h) rfl ⟨rfl, rfl⟩ rfl rfl rfl rfl (sRcv hh (a := 3) rfl rfl) rfl ev ?_
          refine sP 3 (g1 := (47, [some (.ref 3), some (sI ((s : Int))), some (sI (((l + 1 : Nat) : Int))), some (sI W), some (sI b), some (sI ((a : Int))), some (sI p)], [sI ((-9)), sI b], h)) rfl ?_
          refine s_icmp (q := .eq) (a := b) (b := (-9)) rfl ⟨_, rfl⟩ rfl (by unfold sR aMi aMa; omega) (by unfold sR aMi aMa; omega) (fun hc3 => ?_) (fun hc3 => ?_)
          · have hc3 : (b : Int) = ((-9)) := hc3
            refine sP 2 (g1 := (59, [some (.ref 3), some (sI ((s : Int))), some (sI (((l + 1 : Nat) : Int))), some (sI W), some (sI p), some (sI ((a : Int))), some (sI p)], [], h)) rfl ?_
            refine s_inc (a := (a : Int)) (n := 1) (k := 5) rfl rfl rfl ?_
            refine sP 1 (g1 := (26, [some (.ref 3), some (sI ((s : Int))), some (sI (((l + 1 : Nat) : Int))), some (sI W), some (sI p), some (sI (((a : Int)) + 1)), some (sI p)], [], h)) rfl ?_
            rw [show tnB W b p = p by unfold tnB; rw [if_pos (by omega)]] at r0 ⊢
            rw [show ((a : Int) + 1) = ((a + 1 : Nat) : Int) by omega]
            exact r0
          · have hc3 : ¬ ((b : Int) = ((-9))) := hc3
            refine sP 1 (g1 := (49, [some (.ref 3), some (sI ((s : Int))), some (sI (((l + 1 : Nat) : Int))), some (sI W), some (sI b), some (sI ((a : Int))), some (sI p)], [sI W], h)) rfl ?_
            refine s_ifc (q := .eq) (a := W) rfl ⟨_, rfl⟩ rfl (by unfold sR aMi aMa; omega) (fun hc4 => ?_) (fun hc4 => ?_)
            · have hc4 : (W : Int) = 0 := hc4
              refine sP 2 (g1 := (56, [some (.ref 3), some (sI ((s : Int))), some (sI (((l + 1 : Nat) : Int))), some (sI W), some (sI b), some (sI ((a : Int))), some (sI p)], [sI b, sI p], h)) rfl ?_
              refine s_icmp (q := .ge) (a := p) (b := b) rfl ⟨_, rfl⟩ rfl (by unfold sR aMi aMa; omega) (by unfold sR aMi aMa; omega) (fun hc5 => ?_) (fun hc5 => ?_)
              · have hc5 : (b : Int) ≤ p := hc5
                refine s_inc (a := (a : Int)) (n := 1) (k := 5) rfl rfl rfl ?_
                refine sP 1 (g1 := (26, [some (.ref 3), some (sI ((s : Int))), some (sI (((l + 1 : Nat) : Int))), some (sI W), some (sI b), some (sI (((a : Int)) + 1)), some (sI p)], [], h)) rfl ?_
                rw [show tnB W b p = b by unfold tnB; rw [if_neg (by omega)]] at r0 ⊢
                rw [show ((a : Int) + 1) = ((a + 1 : Nat) : Int) by omega]
                exact r0
              · have hc5 : ¬ ((b : Int) ≤ p) := hc5
                refine sP 2 (g1 := (59, [some (.ref 3), some (sI ((s : Int))), some (sI (((l + 1 : Nat) : Int))), some (sI W), some (sI p), some (sI ((a : Int))), some (sI p)], [], h)) rfl ?_
                refine s_inc (a := (a : Int)) (n := 1) (k := 5) rfl rfl rfl ?_
                refine sP 1 (g1 := (26, [some (.ref 3), some (sI ((s : Int))), some (sI (((l + 1 : Nat) : Int))), some (sI W), some (sI p), some (sI (((a : Int)) + 1)), some (sI p)], [], h)) rfl ?_
                rw [show tnB W b p = p by unfold tnB; rw [if_pos (by omega)]] at r0 ⊢
                rw [show ((a : Int) + 1) = ((a + 1 : Nat) : Int) by omega]
                exact r0
            · have hc4 : ¬ ((W : Int) = 0) := hc4
              refine sP 2 (g1 := (52, [some (.ref 3), some (sI ((s : Int))), some (sI (((l + 1 : Nat) : Int))), some (sI W), some (sI b), some (sI ((a : Int))), some (sI p)], [sI b, sI p], h)) rfl ?_
              refine s_icmp (q := .le) (a := p) (b := b) rfl ⟨_, rfl⟩ rfl (by unfold sR aMi aMa; omega) (by unfold sR aMi aMa; omega) (fun hc6 => ?_) (fun hc6 => ?_)
              · have hc6 : (p : Int) ≤ b := hc6
                refine s_inc (a := (a : Int)) (n := 1) (k := 5) rfl rfl rfl ?_
                refine sP 1 (g1 := (26, [some (.ref 3), some (sI ((s : Int))), some (sI (((l + 1 : Nat) : Int))), some (sI W), some (sI b), some (sI (((a : Int)) + 1)), some (sI p)], [], h)) rfl ?_
                rw [show tnB W b p = b by unfold tnB; rw [if_neg (by omega)]] at r0 ⊢
                rw [show ((a : Int) + 1) = ((a + 1 : Nat) : Int) by omega]
                exact r0
              · have hc6 : ¬ ((p : Int) ≤ b) := hc6
                refine sP 3 (g1 := (59, [some (.ref 3), some (sI ((s : Int))), some (sI (((l + 1 : Nat) : Int))), some (sI W), some (sI p), some (sI ((a : Int))), some (sI p)], [], h)) rfl ?_
                refine s_inc (a := (a : Int)) (n := 1) (k := 5) rfl rfl rfl ?_
                refine sP 1 (g1 := (26, [some (.ref 3), some (sI ((s : Int))), some (sI (((l + 1 : Nat) : Int))), some (sI W), some (sI p), some (sI (((a : Int)) + 1)), some (sI p)], [], h)) rfl ?_
                rw [show tnB W b p = p by unfold tnB; rw [if_pos (by omega)]] at r0 ⊢
                rw [show ((a : Int) + 1) = ((a + 1 : Nat) : Int) by omega]
                exact r0
theorem fAfter {n : Nat} (hh : aHp h) (hn : hI h 3 3 = n) : ∀ (l s : Nat), l < 5 → s < 64 → nEv sc (d + 7 + l) 102 [.ref 3, sI (s : Int), sI (l : Int)] h (some (sI (tnV (fun x => ((oC (agX h n x) n n 0 : Nat) : Int)) n l s)), h) := by
  have gp := hI_rg hh xw_p
  have p2 := p2_le (show n ≤ 6 by omega)
  intro l
  induction l with
  | zero =>
    intro s hl hs
    have ev := fAgreeing (sc := sc) (d := d) hh hn hs
    refine nEv_of (t := mMe102) rfl ?_
    show nRn sc (d + 6) (mMT mMe102) (mMC mMe102) (0, [some (.ref 3), some (sI (s : Int)), some (sI 0), none, none, none, none], [], h) (some (sI ((oC (agX h n s) n n 0 : Nat) : Int)), h)
    refine sP 1 (g1 := (1, [some (.ref 3), some (sI ((s : Int))), some (sI 0), none, none, none, none], [sI 0], h)) rfl ?_
    refine s_ifc (q := .le) (a := 0) rfl ⟨_, rfl⟩ rfl (by unfold sR aMi aMa; omega) (fun hc1 => ?_) (fun hc1 => ?_)
    · have hc1 : (0 : Int) ≤ 0 := hc1
      refine sP 2 (g1 := (12, [some (.ref 3), some (sI ((s : Int))), some (sI 0), none, none, none, none], [sI ((s : Int)), .ref 3], h)) rfl ?_
      refine s_call (k := 80) (args := [.ref 3, sI ((s : Int))]) (st := []) (v := some (sI (((oC (agX h n s) n n 0 : Nat) : Int)))) (h1 := h) rfl ⟨rfl, rfl⟩ rfl rfl rfl rfl (sRcv hh (a := 3) rfl rfl) rfl ev ?_
      exact s_reti rfl rfl (Or.inl rfl) rfl rfl
    · have hc1 : ¬ ((0 : Int) ≤ 0) := hc1
      omega
  | succ l ih =>
    intro s hl hs
    have ev : nEv sc (d + 7 + l) 80 [.ref 3, sI (s : Int)] h (some (sI ((oC (agX h n s) n n 0 : Nat) : Int)), h) := by
      have q := fAgreeing (sc := sc) (d := d + 1 + l) hh hn hs
      rw [show d + 1 + l + 6 = d + 7 + l by omega] at q
      exact q
    have rg : ∀ x, -9 ≤ tnV (fun x => ((oC (agX h n x) n n 0 : Nat) : Int)) n l x ∧ tnV (fun x => ((oC (agX h n x) n n 0 : Nat) : Int)) n l x ≤ 100 := tnV_rg (fun x => by
      have := oC_le (agX h n x) (show n ≤ 6 by omega) n 0
      show -9 ≤ ((oC (agX h n x) n n 0 : Nat) : Int) ∧ ((oC (agX h n x) n n 0 : Nat) : Int) ≤ 100
      omega) l
    have e0 : tnV (fun x => ((oC (agX h n x) n n 0 : Nat) : Int)) n (l + 1) s = if s + 1 = 2 ^ n then ((oC (agX h n s) n n 0 : Nat) : Int) else tnF s (1 - ((l + 1 : Nat) : Int) % 2) (tnV (fun x => ((oC (agX h n x) n n 0 : Nat) : Int)) n l) n 0 (-9) := rfl
    rw [e0]
    have rI : ∀ W : Int, 0 ≤ W → W ≤ 1 → nRn sc (d + 7 + l) (mMT mMe102) (mMC mMe102) (26, [some (.ref 3), some (sI (s : Int)), some (sI ((l + 1 : Nat) : Int)), some (sI W), some (sI (-9)), some (sI ((0 : Nat) : Int)), none], [], h) (some (sI (tnF s W (tnV (fun x => ((oC (agX h n x) n n 0 : Nat) : Int)) n l) n 0 (-9))), h) := by
      intro W w0 w1
      have q := fAtI (sc := sc) (d := d + 6 + l) (W := W) hh hn hs (show l < 4 by omega) w0 w1 rg (fun x hx => by
        have q := ih x (by omega) hx
        rw [show d + 7 + l = d + 6 + l + 1 by omega] at q
        exact q) n 0 (-9) none (by omega) (by omega)
      rw [show d + 6 + l + 1 = d + 7 + l by omega] at q
      exact q
    refine nEv_of (t := mMe102) rfl ?_
    show nRn sc (d + 7 + l) (mMT mMe102) (mMC mMe102) (0, [some (.ref 3), some (sI (s : Int)), some (sI ((l + 1 : Nat) : Int)), none, none, none, none], [], h) _
    obtain ⟨q, hq⟩ : ∃ q, 2 ^ n = q := ⟨_, rfl⟩
    rw [hq] at p2 ⊢
    by_cases hf : s + 1 = q
    · rw [if_pos hf]
      refine sP 1 (g1 := (1, [some (.ref 3), some (sI ((s : Int))), some (sI (((l + 1 : Nat) : Int))), none, none, none, none], [sI (((l + 1 : Nat) : Int))], h)) rfl ?_
      refine s_ifc (q := .le) (a := ((l + 1 : Nat) : Int)) rfl ⟨_, rfl⟩ rfl (by unfold sR aMi aMa; omega) (fun hc1 => ?_) (fun hc1 => ?_)
      · have hc1 : ((((l + 1 : Nat) : Int)) : Int) ≤ 0 := hc1
        omega
      · have hc1 : ¬ (((((l + 1 : Nat) : Int)) : Int) ≤ 0) := hc1
        refine sP 3 (g1 := (5, [some (.ref 3), some (sI ((s : Int))), some (sI (((l + 1 : Nat) : Int))), none, none, none, none], [.ref 3, sI 1, sI ((s : Int))], h)) rfl ?_
        refine s_get (a := 3) (j := 3) hh rfl ⟨_, rfl⟩ rfl rfl rfl (v := sI ((n : Int))) (by have q := hI_ok hh xw_p; rw [hn] at q; exact q) ?_
        refine s_shl7 (a := n) rfl rfl (by omega) ?_
        rw [hq]
        refine sP 1 (g1 := (8, [some (.ref 3), some (sI ((s : Int))), some (sI (((l + 1 : Nat) : Int))), none, none, none, none], [sI 1, sI ((q : Int)), sI ((s : Int))], h)) rfl ?_
        refine s_sub (a := (q : Int)) (b := 1) rfl rfl ?_
        refine s_icmp (q := .ne) (a := (s : Int)) (b := ((q : Int)) - 1) rfl ⟨_, rfl⟩ rfl (by unfold sR aMi aMa; omega) (by unfold sR aMi aMa; omega) (fun hc2 => ?_) (fun hc2 => ?_)
        · have hc2 : (((s : Int)) : Int) ≠ (((q : Int)) - 1) := hc2
          omega
        · have hc2 : ¬ ((((s : Int)) : Int) ≠ (((q : Int)) - 1)) := hc2
          refine sP 2 (g1 := (12, [some (.ref 3), some (sI ((s : Int))), some (sI (((l + 1 : Nat) : Int))), none, none, none, none], [sI ((s : Int)), .ref 3], h)) rfl ?_
          refine s_call (k := 80) (args := [.ref 3, sI ((s : Int))]) (st := []) (v := some (sI (((oC (agX h n s) n n 0 : Nat) : Int)))) (h1 := h) rfl ⟨rfl, rfl⟩ rfl rfl rfl rfl (sRcv hh (a := 3) rfl rfl) rfl ev ?_
          exact s_reti rfl rfl (Or.inl rfl) rfl rfl
    · rw [if_neg hf]
      refine sP 1 (g1 := (1, [some (.ref 3), some (sI ((s : Int))), some (sI (((l + 1 : Nat) : Int))), none, none, none, none], [sI (((l + 1 : Nat) : Int))], h)) rfl ?_
      refine s_ifc (q := .le) (a := ((l + 1 : Nat) : Int)) rfl ⟨_, rfl⟩ rfl (by unfold sR aMi aMa; omega) (fun hc1 => ?_) (fun hc1 => ?_)
      · have hc1 : ((((l + 1 : Nat) : Int)) : Int) ≤ 0 := hc1
        omega
      · have hc1 : ¬ (((((l + 1 : Nat) : Int)) : Int) ≤ 0) := hc1
        refine sP 3 (g1 := (5, [some (.ref 3), some (sI ((s : Int))), some (sI (((l + 1 : Nat) : Int))), none, none, none, none], [.ref 3, sI 1, sI ((s : Int))], h)) rfl ?_
        refine s_get (a := 3) (j := 3) hh rfl ⟨_, rfl⟩ rfl rfl rfl (v := sI ((n : Int))) (by have q := hI_ok hh xw_p; rw [hn] at q; exact q) ?_
        refine s_shl7 (a := n) rfl rfl (by omega) ?_
        rw [hq]
        refine sP 1 (g1 := (8, [some (.ref 3), some (sI ((s : Int))), some (sI (((l + 1 : Nat) : Int))), none, none, none, none], [sI 1, sI ((q : Int)), sI ((s : Int))], h)) rfl ?_
        refine s_sub (a := (q : Int)) (b := 1) rfl rfl ?_
        refine s_icmp (q := .ne) (a := (s : Int)) (b := ((q : Int)) - 1) rfl ⟨_, rfl⟩ rfl (by unfold sR aMi aMa; omega) (by unfold sR aMi aMa; omega) (fun hc2 => ?_) (fun hc2 => ?_)
        · have hc2 : (((s : Int)) : Int) ≠ (((q : Int)) - 1) := hc2
          refine sP 2 (g1 := (16, [some (.ref 3), some (sI ((s : Int))), some (sI (((l + 1 : Nat) : Int))), none, none, none, none], [sI 2, sI (((l + 1 : Nat) : Int))], h)) rfl ?_
          refine s_remZ (a := ((l + 1 : Nat) : Int)) rfl rfl (by omega) (by omega) ?_
          refine s_ifc (q := .ne) (a := (((l + 1 : Nat) : Int)) % 2) rfl ⟨_, rfl⟩ rfl (by unfold sR aMi aMa; omega) (fun hc3 => ?_) (fun hc3 => ?_)
          · have hc3 : (((((l + 1 : Nat) : Int)) % 2) : Int) ≠ 0 := hc3
            refine sP 6 (g1 := (26, [some (.ref 3), some (sI ((s : Int))), some (sI (((l + 1 : Nat) : Int))), some (sI 0), some (sI ((-9))), some (sI 0), none], [], h)) rfl ?_
            have rW := rI 0 (by omega) (by omega)
            rw [show tnF s (1 - ((l + 1 : Nat) : Int) % 2) (tnV (fun x => ((oC (agX h n x) n n 0 : Nat) : Int)) n l) n 0 (-9) = tnF s 0 (tnV (fun x => ((oC (agX h n x) n n 0 : Nat) : Int)) n l) n 0 (-9) by rw [show (1 - ((l + 1 : Nat) : Int) % 2) = 0 by omega]]
            exact rW
          · have hc3 : ¬ ((((((l + 1 : Nat) : Int)) % 2) : Int) ≠ 0) := hc3
            refine sP 7 (g1 := (26, [some (.ref 3), some (sI ((s : Int))), some (sI (((l + 1 : Nat) : Int))), some (sI 1), some (sI ((-9))), some (sI 0), none], [], h)) rfl ?_
            have rW := rI 1 (by omega) (by omega)
            rw [show tnF s (1 - ((l + 1 : Nat) : Int) % 2) (tnV (fun x => ((oC (agX h n x) n n 0 : Nat) : Int)) n l) n 0 (-9) = tnF s 1 (tnV (fun x => ((oC (agX h n x) n n 0 : Nat) : Int)) n l) n 0 (-9) by rw [show (1 - ((l + 1 : Nat) : Int) % 2) = 1 by omega]]
            exact rW
        · have hc2 : ¬ ((((s : Int)) : Int) ≠ (((q : Int)) - 1)) := hc2
          omega
theorem mi_u {j : Nat} (hj : j < 5) : zCell 66 j 0 63 = true := (show ∀ j, j < 5 → zCell 66 j 0 63 = true by decide +kernel) j hj
theorem mi_t {j : Nat} (hj : j < 5) : zCell 67 j (-1) 7 = true := (show ∀ j, j < 5 → zCell 67 j (-1) 7 = true by decide +kernel) j hj
theorem mi_b {j : Nat} (hj : j < 5) : zCell 68 j (-2147483648) 2147483647 = true := (show ∀ j, j < 5 → zCell 68 j (-2147483648) 2147483647 = true by decide +kernel) j hj
theorem mi_ui {j : Nat} (hj : j < 5) : zIn 66 j 0 63 = true := (show ∀ j, j < 5 → zIn 66 j 0 63 = true by decide +kernel) j hj
theorem mi_ti {j : Nat} (hj : j < 5) : zIn 67 j (-1) 7 = true := (show ∀ j, j < 5 → zIn 67 j (-1) 7 = true by decide +kernel) j hj
theorem mi_bi {j : Nat} (hj : j < 5) : zIn 68 j (-2147483648) 2147483647 = true := (show ∀ j, j < 5 → zIn 68 j (-2147483648) 2147483647 = true by decide +kernel) j hj
theorem fBegins {e : Nat} (hh : aHp h) (he : e < 5) : ∃ g, nEv sc (d + 1) 204 [.ref 53, sI (e : Int)] h (none, g) ∧ aHp g ∧ ∀ p m, aSlot g p m = if p = 68 ∧ m = e then some (sI (-9)) else if p = 67 ∧ m = e then some (sI (-1)) else aSlot h p m := by
  obtain ⟨g1, eg1⟩ : ∃ gz, gz = hset h 67 e (sI (-1)) := ⟨_, rfl⟩
  have sg1 : ∀ xa xm, aSlot g1 xa xm = if xa = 67 ∧ xm = e then some (sI (-1)) else aSlot h xa xm := fun xa xm => by rw [eg1]; exact hset_slot hh (show sTg 67 = some (50, 5) from rfl) (by omega) xa xm
  have hg1 : aHp g1 := by rw [eg1]; exact hset_ii hh (mi_ti he) (by omega) (by omega) (by unfold sR aMi aMa; omega)
  obtain ⟨g2, eg2⟩ : ∃ gz, gz = hset g1 68 e (sI (-9)) := ⟨_, rfl⟩
  have sg2 : ∀ xa xm, aSlot g2 xa xm = if xa = 68 ∧ xm = e then some (sI (-9)) else aSlot g1 xa xm := fun xa xm => by rw [eg2]; exact hset_slot hg1 (show sTg 68 = some (50, 5) from rfl) (by omega) xa xm
  have hg2 : aHp g2 := by rw [eg2]; exact hset_ii hg1 (mi_bi he) (by omega) (by omega) (by unfold sR aMi aMa; omega)
  refine ⟨g2, nEv_of (t := mMe204) rfl ?_, hg2, fun p m => by rw [sg2, sg1]⟩
  show nRn sc (d) (mMT mMe204) (mMC mMe204) (0, [some (.ref 53), some (sI ((e : Int)))], [], h) _
  refine sP 1 (g1 := (1, [some (.ref 53), some (sI ((e : Int)))], [.ref 53], h)) rfl ?_
  refine s_get (a := 53) (j := 19) hh rfl ⟨_, rfl⟩ rfl rfl rfl (v := .ref 67) (hR_ok hh (by decide +kernel)) ?_
  refine sP 2 (g1 := (4, [some (.ref 53), some (sI ((e : Int)))], [sI ((-1)), sI ((e : Int)), .ref 67], h)) rfl ?_
  refine s_iast (a := 67) (n := 5) (j := (e : Int)) hh rfl rfl (show sTg 67 = some (50, 5) from rfl) (by omega) (by omega) (by decide) ?_
  rw [show ((e : Int) : Int).toNat = e by omega]
  rw [← eg1]
  refine sP 1 (g1 := (6, [some (.ref 53), some (sI ((e : Int)))], [.ref 53], g1)) rfl ?_
  refine s_get (a := 53) (j := 20) hg1 rfl ⟨_, rfl⟩ rfl rfl rfl (v := .ref 68) (hR_ok hg1 (by decide +kernel)) ?_
  refine sP 2 (g1 := (9, [some (.ref 53), some (sI ((e : Int)))], [sI ((-9)), sI ((e : Int)), .ref 68], g1)) rfl ?_
  refine s_iast (a := 68) (n := 5) (j := (e : Int)) hg1 rfl rfl (show sTg 68 = some (50, 5) from rfl) (by omega) (by omega) (by decide) ?_
  rw [show ((e : Int) : Int).toNat = e by omega]
  rw [← eg2]
  exact s_ret rfl rfl
theorem fWeighs {e : Nat} {b v : Int} (hh : aHp h) (he : e < 5) (hb : hI h 68 e = b) (rb : -9 ≤ b ∧ b ≤ 100) (rv : -9 ≤ v ∧ v ≤ 100) : ∃ g, nEv sc (d + 1) 205 [.ref 53, sI (e : Int), sI v] h (none, g) ∧ aHp g ∧ ∀ p m, aSlot g p m = if p = 68 ∧ m = e then some (sI (tnB (1 - (e : Int) % 2) b v)) else aSlot h p m := by
  have rF := tnB_rg (W := 1 - (e : Int) % 2) rb rv
  obtain ⟨F, eF⟩ : ∃ F, tnB (1 - (e : Int) % 2) b v = F := ⟨_, rfl⟩
  rw [eF] at rF ⊢
  obtain ⟨g1, eg1⟩ : ∃ gz, gz = hset h 68 e (sI F) := ⟨_, rfl⟩
  have sg1 : ∀ xa xm, aSlot g1 xa xm = if xa = 68 ∧ xm = e then some (sI F) else aSlot h xa xm := fun xa xm => by rw [eg1]; exact hset_slot hh (show sTg 68 = some (50, 5) from rfl) (by omega) xa xm
  have hg1 : aHp g1 := by rw [eg1]; exact hset_ii hh (mi_bi he) (by omega) (by omega) (by unfold sR aMi aMa; omega)
  refine ⟨g1, nEv_of (t := mMe205) rfl ?_, hg1, sg1⟩
  show nRn sc (d) (mMT mMe205) (mMC mMe205) (0, [some (.ref 53), some (sI (e : Int)), some (sI v), none], [], h) _
  refine sP 1 (g1 := (1, [some (.ref 53), some (sI ((e : Int))), some (sI v), none], [.ref 53], h)) rfl ?_
  refine s_get (a := 53) (j := 20) hh rfl ⟨_, rfl⟩ rfl rfl rfl (v := .ref 68) (hR_ok hh (by decide +kernel)) ?_
  refine sP 1 (g1 := (3, [some (.ref 53), some (sI ((e : Int))), some (sI v), none], [sI ((e : Int)), .ref 68], h)) rfl ?_
  refine s_iald (a := 68) (n := 5) (j := (e : Int)) hh rfl rfl rfl (by omega) (by omega) (by decide) (v := sI b) (by rw [show ((e : Int) : Int).toNat = e by omega]; have q := hI_ok hh (mi_b (j := e) (by omega)); rw [hb] at q; exact q) ?_
  refine sP 1 (g1 := (5, [some (.ref 53), some (sI ((e : Int))), some (sI v), none], [sI ((-9)), sI b], h)) rfl ?_
  refine s_icmp (q := .eq) (a := b) (b := (-9)) rfl ⟨_, rfl⟩ rfl (by unfold sR aMi aMa; omega) (by unfold sR aMi aMa; omega) (fun hc1 => ?_) (fun hc1 => ?_)
  · have hc1 : (b : Int) = ((-9)) := hc1
    refine sP 4 (g1 := (28, [some (.ref 53), some (sI ((e : Int))), some (sI v), some (sI 1)], [.ref 53], h)) rfl ?_
    refine s_get (a := 53) (j := 20) hh rfl ⟨_, rfl⟩ rfl rfl rfl (v := .ref 68) (hR_ok hh (by decide +kernel)) ?_
    refine sP 2 (g1 := (31, [some (.ref 53), some (sI ((e : Int))), some (sI v), some (sI 1)], [sI 1, sI ((e : Int)), .ref 68], h)) rfl ?_
    refine s_ifc (q := .eq) (a := 1) rfl ⟨_, rfl⟩ rfl (by unfold sR aMi aMa; omega) (fun hc2 => ?_) (fun hc2 => ?_)
    · have hc2 : (1 : Int) = 0 := hc2
      omega
    · have hc2 : ¬ ((1 : Int) = 0) := hc2
      refine sP 2 (g1 := (38, [some (.ref 53), some (sI ((e : Int))), some (sI v), some (sI 1)], [sI v, sI ((e : Int)), .ref 68], h)) rfl ?_
      refine s_iast (a := 68) (n := 5) (j := (e : Int)) hh rfl rfl (show sTg 68 = some (50, 5) from rfl) (by omega) (by omega) (by decide) ?_
      rw [show ((e : Int) : Int).toNat = e by omega]
      rw [show (v : Int) = F by rw [← eF]; unfold tnB; rw [if_pos (by omega)]]
      rw [← eg1]
      exact s_ret rfl rfl
  · have hc1 : ¬ ((b : Int) = ((-9))) := hc1
    refine sP 2 (g1 := (8, [some (.ref 53), some (sI ((e : Int))), some (sI v), none], [sI 2, sI ((e : Int))], h)) rfl ?_
    refine s_remZ (a := (e : Int)) rfl rfl (by omega) (by omega) ?_
    refine s_ifc (q := .ne) (a := ((e : Int)) % 2) rfl ⟨_, rfl⟩ rfl (by unfold sR aMi aMa; omega) (fun hc3 => ?_) (fun hc3 => ?_)
    · have hc3 : ((((e : Int)) % 2) : Int) ≠ 0 := hc3
      refine sP 2 (g1 := (19, [some (.ref 53), some (sI ((e : Int))), some (sI v), none], [.ref 53, sI v], h)) rfl ?_
      refine s_get (a := 53) (j := 20) hh rfl ⟨_, rfl⟩ rfl rfl rfl (v := .ref 68) (hR_ok hh (by decide +kernel)) ?_
      refine sP 1 (g1 := (21, [some (.ref 53), some (sI ((e : Int))), some (sI v), none], [sI ((e : Int)), .ref 68, sI v], h)) rfl ?_
      refine s_iald (a := 68) (n := 5) (j := (e : Int)) hh rfl rfl rfl (by omega) (by omega) (by decide) (v := sI b) (by rw [show ((e : Int) : Int).toNat = e by omega]; have q := hI_ok hh (mi_b (j := e) (by omega)); rw [hb] at q; exact q) ?_
      refine s_icmp (q := .ge) (a := v) (b := b) rfl ⟨_, rfl⟩ rfl (by unfold sR aMi aMa; omega) (by unfold sR aMi aMa; omega) (fun hc4 => ?_) (fun hc4 => ?_)
      · have hc4 : (b : Int) ≤ v := hc4
        refine sP 3 (g1 := (28, [some (.ref 53), some (sI ((e : Int))), some (sI v), some (sI 0)], [.ref 53], h)) rfl ?_
        refine s_get (a := 53) (j := 20) hh rfl ⟨_, rfl⟩ rfl rfl rfl (v := .ref 68) (hR_ok hh (by decide +kernel)) ?_
        refine sP 2 (g1 := (31, [some (.ref 53), some (sI ((e : Int))), some (sI v), some (sI 0)], [sI 0, sI ((e : Int)), .ref 68], h)) rfl ?_
        refine s_ifc (q := .eq) (a := 0) rfl ⟨_, rfl⟩ rfl (by unfold sR aMi aMa; omega) (fun hc5 => ?_) (fun hc5 => ?_)
        · have hc5 : (0 : Int) = 0 := hc5
          refine sP 1 (g1 := (35, [some (.ref 53), some (sI ((e : Int))), some (sI v), some (sI 0)], [.ref 53, sI ((e : Int)), .ref 68], h)) rfl ?_
          refine s_get (a := 53) (j := 20) hh rfl ⟨_, rfl⟩ rfl rfl rfl (v := .ref 68) (hR_ok hh (by decide +kernel)) ?_
          refine sP 1 (g1 := (37, [some (.ref 53), some (sI ((e : Int))), some (sI v), some (sI 0)], [sI ((e : Int)), .ref 68, sI ((e : Int)), .ref 68], h)) rfl ?_
          refine s_iald (a := 68) (n := 5) (j := (e : Int)) hh rfl rfl rfl (by omega) (by omega) (by decide) (v := sI b) (by rw [show ((e : Int) : Int).toNat = e by omega]; have q := hI_ok hh (mi_b (j := e) (by omega)); rw [hb] at q; exact q) ?_
          refine s_iast (a := 68) (n := 5) (j := (e : Int)) hh rfl rfl (show sTg 68 = some (50, 5) from rfl) (by omega) (by omega) (by decide) ?_
          rw [show ((e : Int) : Int).toNat = e by omega]
          rw [show (b : Int) = F by rw [← eF]; unfold tnB; rw [if_neg (by omega)]]
          rw [← eg1]
          exact s_ret rfl rfl
        · have hc5 : ¬ ((0 : Int) = 0) := hc5
          omega
      · have hc4 : ¬ ((b : Int) ≤ v) := hc4
        refine sP 4 (g1 := (28, [some (.ref 53), some (sI ((e : Int))), some (sI v), some (sI 1)], [.ref 53], h)) rfl ?_
        refine s_get (a := 53) (j := 20) hh rfl ⟨_, rfl⟩ rfl rfl rfl (v := .ref 68) (hR_ok hh (by decide +kernel)) ?_
        refine sP 2 (g1 := (31, [some (.ref 53), some (sI ((e : Int))), some (sI v), some (sI 1)], [sI 1, sI ((e : Int)), .ref 68], h)) rfl ?_
        refine s_ifc (q := .eq) (a := 1) rfl ⟨_, rfl⟩ rfl (by unfold sR aMi aMa; omega) (fun hc6 => ?_) (fun hc6 => ?_)
        · have hc6 : (1 : Int) = 0 := hc6
          omega
        · have hc6 : ¬ ((1 : Int) = 0) := hc6
          refine sP 2 (g1 := (38, [some (.ref 53), some (sI ((e : Int))), some (sI v), some (sI 1)], [sI v, sI ((e : Int)), .ref 68], h)) rfl ?_
          refine s_iast (a := 68) (n := 5) (j := (e : Int)) hh rfl rfl (show sTg 68 = some (50, 5) from rfl) (by omega) (by omega) (by decide) ?_
          rw [show ((e : Int) : Int).toNat = e by omega]
          rw [show (v : Int) = F by rw [← eF]; unfold tnB; rw [if_pos (by omega)]]
          rw [← eg1]
          exact s_ret rfl rfl
    · have hc3 : ¬ (((((e : Int)) % 2) : Int) ≠ 0) := hc3
      refine sP 2 (g1 := (12, [some (.ref 53), some (sI ((e : Int))), some (sI v), none], [.ref 53, sI v], h)) rfl ?_
      refine s_get (a := 53) (j := 20) hh rfl ⟨_, rfl⟩ rfl rfl rfl (v := .ref 68) (hR_ok hh (by decide +kernel)) ?_
      refine sP 1 (g1 := (14, [some (.ref 53), some (sI ((e : Int))), some (sI v), none], [sI ((e : Int)), .ref 68, sI v], h)) rfl ?_
      refine s_iald (a := 68) (n := 5) (j := (e : Int)) hh rfl rfl rfl (by omega) (by omega) (by decide) (v := sI b) (by rw [show ((e : Int) : Int).toNat = e by omega]; have q := hI_ok hh (mi_b (j := e) (by omega)); rw [hb] at q; exact q) ?_
      refine s_icmp (q := .le) (a := v) (b := b) rfl ⟨_, rfl⟩ rfl (by unfold sR aMi aMa; omega) (by unfold sR aMi aMa; omega) (fun hc7 => ?_) (fun hc7 => ?_)
      · have hc7 : (v : Int) ≤ b := hc7
        refine sP 3 (g1 := (28, [some (.ref 53), some (sI ((e : Int))), some (sI v), some (sI 0)], [.ref 53], h)) rfl ?_
        refine s_get (a := 53) (j := 20) hh rfl ⟨_, rfl⟩ rfl rfl rfl (v := .ref 68) (hR_ok hh (by decide +kernel)) ?_
        refine sP 2 (g1 := (31, [some (.ref 53), some (sI ((e : Int))), some (sI v), some (sI 0)], [sI 0, sI ((e : Int)), .ref 68], h)) rfl ?_
        refine s_ifc (q := .eq) (a := 0) rfl ⟨_, rfl⟩ rfl (by unfold sR aMi aMa; omega) (fun hc8 => ?_) (fun hc8 => ?_)
        · have hc8 : (0 : Int) = 0 := hc8
          refine sP 1 (g1 := (35, [some (.ref 53), some (sI ((e : Int))), some (sI v), some (sI 0)], [.ref 53, sI ((e : Int)), .ref 68], h)) rfl ?_
          refine s_get (a := 53) (j := 20) hh rfl ⟨_, rfl⟩ rfl rfl rfl (v := .ref 68) (hR_ok hh (by decide +kernel)) ?_
          refine sP 1 (g1 := (37, [some (.ref 53), some (sI ((e : Int))), some (sI v), some (sI 0)], [sI ((e : Int)), .ref 68, sI ((e : Int)), .ref 68], h)) rfl ?_
          refine s_iald (a := 68) (n := 5) (j := (e : Int)) hh rfl rfl rfl (by omega) (by omega) (by decide) (v := sI b) (by rw [show ((e : Int) : Int).toNat = e by omega]; have q := hI_ok hh (mi_b (j := e) (by omega)); rw [hb] at q; exact q) ?_
          refine s_iast (a := 68) (n := 5) (j := (e : Int)) hh rfl rfl (show sTg 68 = some (50, 5) from rfl) (by omega) (by omega) (by decide) ?_
          rw [show ((e : Int) : Int).toNat = e by omega]
          rw [show (b : Int) = F by rw [← eF]; unfold tnB; rw [if_neg (by omega)]]
          rw [← eg1]
          exact s_ret rfl rfl
        · have hc8 : ¬ ((0 : Int) = 0) := hc8
          omega
      · have hc7 : ¬ ((v : Int) ≤ b) := hc7
        refine sP 5 (g1 := (28, [some (.ref 53), some (sI ((e : Int))), some (sI v), some (sI 1)], [.ref 53], h)) rfl ?_
        refine s_get (a := 53) (j := 20) hh rfl ⟨_, rfl⟩ rfl rfl rfl (v := .ref 68) (hR_ok hh (by decide +kernel)) ?_
        refine sP 2 (g1 := (31, [some (.ref 53), some (sI ((e : Int))), some (sI v), some (sI 1)], [sI 1, sI ((e : Int)), .ref 68], h)) rfl ?_
        refine s_ifc (q := .eq) (a := 1) rfl ⟨_, rfl⟩ rfl (by unfold sR aMi aMa; omega) (fun hc9 => ?_) (fun hc9 => ?_)
        · have hc9 : (1 : Int) = 0 := hc9
          omega
        · have hc9 : ¬ ((1 : Int) = 0) := hc9
          refine sP 2 (g1 := (38, [some (.ref 53), some (sI ((e : Int))), some (sI v), some (sI 1)], [sI v, sI ((e : Int)), .ref 68], h)) rfl ?_
          refine s_iast (a := 68) (n := 5) (j := (e : Int)) hh rfl rfl (show sTg 68 = some (50, 5) from rfl) (by omega) (by omega) (by decide) ?_
          rw [show ((e : Int) : Int).toNat = e by omega]
          rw [show (v : Int) = F by rw [← eF]; unfold tnB; rw [if_pos (by omega)]]
          rw [← eg1]
          exact s_ret rfl rfl
theorem fSends {n e s t : Nat} (hh : aHp h) (he : e < 4) (hn : hI h 58 0 = n) (hu : hI h 66 e = (s : Int)) (hs : s < 64) (ht : hI h 67 e = (t : Int)) (htn : t ≤ n) : ∃ g, nEv sc (d + 2) 206 [.ref 53, sI (e : Int)] h (some (sI (if tnD n s t = true then 1 else 0)), g) ∧ aHp g ∧ ∀ p m, aSlot g p m = if p = 66 ∧ m = e + 1 then some (sI ((tnS n s t : Nat) : Int)) else aSlot h p m := by
  have gp := hI_rg hh nw_p
  have p2 := p2_le (show n ≤ 6 by omega)
  obtain ⟨q, hq⟩ : ∃ q, 2 ^ n = q := ⟨_, rfl⟩
  unfold tnD tnS
  rw [hq] at p2 ⊢
  by_cases htl : t < n
  · have t6 : t < 6 := by omega
    have xl := or6_lt hs (p26_lt t6)
    rw [if_pos htl, if_pos htl]
    have vb := fHas (sc := sc) (d := d) (h := h) (s := s) (a := t) hs t6
    obtain ⟨x, ex⟩ : ∃ x, s ||| 2 ^ t = x := ⟨_, rfl⟩
    rw [ex] at xl ⊢
    obtain ⟨g1, eg1⟩ : ∃ gz, gz = hset h 66 ((e + 1)) (sI (x : Int)) := ⟨_, rfl⟩
    have sg1 : ∀ xa xm, aSlot g1 xa xm = if xa = 66 ∧ xm = (e + 1) then some (sI (x : Int)) else aSlot h xa xm := fun xa xm => by rw [eg1]; exact hset_slot hh (show sTg 66 = some (50, 5) from rfl) (by omega) xa xm
    have hg1 : aHp g1 := by rw [eg1]; exact hset_ii hh (mi_ui (show e + 1 < 5 by omega)) (by omega) (by omega) (by unfold sR aMi aMa; omega)
    refine ⟨g1, nEv_of (t := mMe206) rfl ?_, hg1, sg1⟩
    show nRn sc (d + 1) (mMT mMe206) (mMC mMe206) (0, [some (.ref 53), some (sI (e : Int)), none, none, none], [], h) _
    by_cases hb : bt s t = true
    · rw [if_pos hb] at vb
      rw [hb]
      refine sP 1 (g1 := (1, [some (.ref 53), some (sI ((e : Int))), none, none, none], [.ref 53], h)) rfl ?_
      refine s_get (a := 53) (j := 19) hh rfl ⟨_, rfl⟩ rfl rfl rfl (v := .ref 67) (hR_ok hh (by decide +kernel)) ?_
      refine sP 1 (g1 := (3, [some (.ref 53), some (sI ((e : Int))), none, none, none], [sI ((e : Int)), .ref 67], h)) rfl ?_
      refine s_iald (a := 67) (n := 5) (j := (e : Int)) hh rfl rfl rfl (by omega) (by omega) (by decide) (v := sI ((t : Int))) (by rw [show ((e : Int) : Int).toNat = e by omega]; have q := hI_ok hh (mi_t (j := e) (by omega)); rw [ht] at q; exact q) ?_
      refine sP 2 (g1 := (6, [some (.ref 53), some (sI ((e : Int))), some (sI ((t : Int))), none, none], [.ref 53], h)) rfl ?_
      refine s_get (a := 53) (j := 18) hh rfl ⟨_, rfl⟩ rfl rfl rfl (v := .ref 66) (hR_ok hh (by decide +kernel)) ?_
      refine sP 1 (g1 := (8, [some (.ref 53), some (sI ((e : Int))), some (sI ((t : Int))), none, none], [sI ((e : Int)), .ref 66], h)) rfl ?_
      refine s_iald (a := 66) (n := 5) (j := (e : Int)) hh rfl rfl rfl (by omega) (by omega) (by decide) (v := sI ((s : Int))) (by rw [show ((e : Int) : Int).toNat = e by omega]; have q := hI_ok hh (mi_u (j := e) (by omega)); rw [hu] at q; exact q) ?_
      refine sP 2 (g1 := (11, [some (.ref 53), some (sI ((e : Int))), some (sI ((t : Int))), none, none], [.ref 53, sI 1, sI ((s : Int))], h)) rfl ?_
      refine s_get (a := 53) (j := 4) hh rfl ⟨_, rfl⟩ rfl rfl rfl (v := .ref 58) (hR_ok hh (by decide +kernel)) ?_
      refine sP 1 (g1 := (13, [some (.ref 53), some (sI ((e : Int))), some (sI ((t : Int))), none, none], [sI 0, .ref 58, sI 1, sI ((s : Int))], h)) rfl ?_
      refine s_iald (a := 58) (n := 201) (j := 0) hh rfl rfl rfl (by omega) (by omega) (by decide) (v := sI ((n : Int))) (by have q := hI_ok hh nw_p; rw [hn] at q; exact q) ?_
      refine s_shl7 (a := n) rfl rfl (by omega) ?_
      rw [hq]
      refine sP 1 (g1 := (16, [some (.ref 53), some (sI ((e : Int))), some (sI ((t : Int))), none, none], [sI 1, sI ((q : Int)), sI ((s : Int))], h)) rfl ?_
      refine s_sub (a := (q : Int)) (b := 1) rfl rfl ?_
      refine s_icmp (q := .ne) (a := (s : Int)) (b := ((q : Int)) - 1) rfl ⟨_, rfl⟩ rfl (by unfold sR aMi aMa; omega) (by unfold sR aMi aMa; omega) (fun hc1 => ?_) (fun hc1 => ?_)
      · have hc1 : (((s : Int)) : Int) ≠ (((q : Int)) - 1) := hc1
        refine sP 4 (g1 := (24, [some (.ref 53), some (sI ((e : Int))), some (sI ((t : Int))), some (sI 0), none], [.ref 53, sI ((t : Int))], h)) rfl ?_
        refine s_get (a := 53) (j := 4) hh rfl ⟨_, rfl⟩ rfl rfl rfl (v := .ref 58) (hR_ok hh (by decide +kernel)) ?_
        refine sP 1 (g1 := (26, [some (.ref 53), some (sI ((e : Int))), some (sI ((t : Int))), some (sI 0), none], [sI 0, .ref 58, sI ((t : Int))], h)) rfl ?_
        refine s_iald (a := 58) (n := 201) (j := 0) hh rfl rfl rfl (by omega) (by omega) (by decide) (v := sI ((n : Int))) (by have q := hI_ok hh nw_p; rw [hn] at q; exact q) ?_
        refine s_icmp (q := .ne) (a := (t : Int)) (b := (n : Int)) rfl ⟨_, rfl⟩ rfl (by unfold sR aMi aMa; omega) (by unfold sR aMi aMa; omega) (fun hc2 => ?_) (fun hc2 => ?_)
        · have hc2 : (((t : Int)) : Int) ≠ ((n : Int)) := hc2
          refine sP 1 (g1 := (31, [some (.ref 53), some (sI ((e : Int))), some (sI ((t : Int))), some (sI 0), none], [.ref 53], h)) rfl ?_
          refine s_get (a := 53) (j := 18) hh rfl ⟨_, rfl⟩ rfl rfl rfl (v := .ref 66) (hR_ok hh (by decide +kernel)) ?_
          refine sP 1 (g1 := (33, [some (.ref 53), some (sI ((e : Int))), some (sI ((t : Int))), some (sI 0), none], [sI ((e : Int)), .ref 66], h)) rfl ?_
          refine s_iald (a := 66) (n := 5) (j := (e : Int)) hh rfl rfl rfl (by omega) (by omega) (by decide) (v := sI ((s : Int))) (by rw [show ((e : Int) : Int).toNat = e by omega]; have q := hI_ok hh (mi_u (j := e) (by omega)); rw [hu] at q; exact q) ?_
          refine sP 1 (g1 := (35, [some (.ref 53), some (sI ((e : Int))), some (sI ((t : Int))), some (sI 0), none], [sI ((t : Int)), sI ((s : Int))], h)) rfl ?_
          refine s_call (k := 149) (args := [sI ((s : Int)), sI ((t : Int))]) (st := []) (v := some (sI 1)) (h1 := h) rfl ⟨rfl, rfl⟩ rfl rfl rfl rfl rfl rfl vb ?_
          refine s_ifc (q := .ne) (a := 1) rfl ⟨_, rfl⟩ rfl (by unfold sR aMi aMa; omega) (fun hc3 => ?_) (fun hc3 => ?_)
          · have hc3 : (1 : Int) ≠ 0 := hc3
            refine sP 3 (g1 := (42, [some (.ref 53), some (sI ((e : Int))), some (sI ((t : Int))), some (sI 0), some (sI 0)], [.ref 53], h)) rfl ?_
            refine s_get (a := 53) (j := 18) hh rfl ⟨_, rfl⟩ rfl rfl rfl (v := .ref 66) (hR_ok hh (by decide +kernel)) ?_
            refine sP 2 (g1 := (45, [some (.ref 53), some (sI ((e : Int))), some (sI ((t : Int))), some (sI 0), some (sI 0)], [sI 1, sI ((e : Int)), .ref 66], h)) rfl ?_
            refine s_add (a := (e : Int)) (b := 1) rfl rfl ?_
            refine sP 1 (g1 := (47, [some (.ref 53), some (sI ((e : Int))), some (sI ((t : Int))), some (sI 0), some (sI 0)], [.ref 53, sI (((e : Int)) + 1), .ref 66], h)) rfl ?_
            refine s_get (a := 53) (j := 18) hh rfl ⟨_, rfl⟩ rfl rfl rfl (v := .ref 66) (hR_ok hh (by decide +kernel)) ?_
            refine sP 1 (g1 := (49, [some (.ref 53), some (sI ((e : Int))), some (sI ((t : Int))), some (sI 0), some (sI 0)], [sI ((e : Int)), .ref 66, sI (((e : Int)) + 1), .ref 66], h)) rfl ?_
            refine s_iald (a := 66) (n := 5) (j := (e : Int)) hh rfl rfl rfl (by omega) (by omega) (by decide) (v := sI ((s : Int))) (by rw [show ((e : Int) : Int).toNat = e by omega]; have q := hI_ok hh (mi_u (j := e) (by omega)); rw [hu] at q; exact q) ?_
            refine sP 2 (g1 := (52, [some (.ref 53), some (sI ((e : Int))), some (sI ((t : Int))), some (sI 0), some (sI 0)], [.ref 53, sI ((t : Int)), sI ((s : Int)), sI (((e : Int)) + 1), .ref 66], h)) rfl ?_
            refine s_get (a := 53) (j := 4) hh rfl ⟨_, rfl⟩ rfl rfl rfl (v := .ref 58) (hR_ok hh (by decide +kernel)) ?_
            refine sP 1 (g1 := (54, [some (.ref 53), some (sI ((e : Int))), some (sI ((t : Int))), some (sI 0), some (sI 0)], [sI 0, .ref 58, sI ((t : Int)), sI ((s : Int)), sI (((e : Int)) + 1), .ref 66], h)) rfl ?_
            refine s_iald (a := 58) (n := 201) (j := 0) hh rfl rfl rfl (by omega) (by omega) (by decide) (v := sI ((n : Int))) (by have q := hI_ok hh nw_p; rw [hn] at q; exact q) ?_
            refine s_icmp (q := .ge) (a := (t : Int)) (b := (n : Int)) rfl ⟨_, rfl⟩ rfl (by unfold sR aMi aMa; omega) (by unfold sR aMi aMa; omega) (fun hc4 => ?_) (fun hc4 => ?_)
            · have hc4 : (((n : Int)) : Int) ≤ ((t : Int)) := hc4
              omega
            · have hc4 : ¬ ((((n : Int)) : Int) ≤ ((t : Int))) := hc4
              refine sP 2 (g1 := (58, [some (.ref 53), some (sI ((e : Int))), some (sI ((t : Int))), some (sI 0), some (sI 0)], [sI ((t : Int)), sI 1, sI ((s : Int)), sI (((e : Int)) + 1), .ref 66], h)) rfl ?_
              refine s_shl7 (a := t) rfl rfl (by omega) ?_
              refine sP 1 (g1 := (61, [some (.ref 53), some (sI ((e : Int))), some (sI ((t : Int))), some (sI 0), some (sI 0)], [sI (((2 ^ t : Nat) : Int)), sI ((s : Int)), sI (((e : Int)) + 1), .ref 66], h)) rfl ?_
              refine s_b1 rfl rfl (b_or6 s hs (2 ^ t) (p26_lt t6)) ?_
              rw [ex]
              refine s_iast (a := 66) (n := 5) (j := ((e : Int)) + 1) hh rfl rfl (show sTg 66 = some (50, 5) from rfl) (by omega) (by omega) (by decide) ?_
              rw [show (((e : Int)) + 1 : Int).toNat = (e + 1) by omega]
              rw [← eg1]
              refine sP 1 (g1 := (64, [some (.ref 53), some (sI ((e : Int))), some (sI ((t : Int))), some (sI 0), some (sI 0)], [sI 0], g1)) rfl ?_
              exact s_reti rfl rfl (Or.inr ⟨rfl, by omega⟩) rfl rfl
          · have hc3 : ¬ ((1 : Int) ≠ 0) := hc3
            omega
        · have hc2 : ¬ ((((t : Int)) : Int) ≠ ((n : Int))) := hc2
          omega
      · have hc1 : ¬ ((((s : Int)) : Int) ≠ (((q : Int)) - 1)) := hc1
        refine sP 5 (g1 := (24, [some (.ref 53), some (sI ((e : Int))), some (sI ((t : Int))), some (sI 1), none], [.ref 53, sI ((t : Int))], h)) rfl ?_
        refine s_get (a := 53) (j := 4) hh rfl ⟨_, rfl⟩ rfl rfl rfl (v := .ref 58) (hR_ok hh (by decide +kernel)) ?_
        refine sP 1 (g1 := (26, [some (.ref 53), some (sI ((e : Int))), some (sI ((t : Int))), some (sI 1), none], [sI 0, .ref 58, sI ((t : Int))], h)) rfl ?_
        refine s_iald (a := 58) (n := 201) (j := 0) hh rfl rfl rfl (by omega) (by omega) (by decide) (v := sI ((n : Int))) (by have q := hI_ok hh nw_p; rw [hn] at q; exact q) ?_
        refine s_icmp (q := .ne) (a := (t : Int)) (b := (n : Int)) rfl ⟨_, rfl⟩ rfl (by unfold sR aMi aMa; omega) (by unfold sR aMi aMa; omega) (fun hc5 => ?_) (fun hc5 => ?_)
        · have hc5 : (((t : Int)) : Int) ≠ ((n : Int)) := hc5
          refine sP 1 (g1 := (31, [some (.ref 53), some (sI ((e : Int))), some (sI ((t : Int))), some (sI 1), none], [.ref 53], h)) rfl ?_
          refine s_get (a := 53) (j := 18) hh rfl ⟨_, rfl⟩ rfl rfl rfl (v := .ref 66) (hR_ok hh (by decide +kernel)) ?_
          refine sP 1 (g1 := (33, [some (.ref 53), some (sI ((e : Int))), some (sI ((t : Int))), some (sI 1), none], [sI ((e : Int)), .ref 66], h)) rfl ?_
          refine s_iald (a := 66) (n := 5) (j := (e : Int)) hh rfl rfl rfl (by omega) (by omega) (by decide) (v := sI ((s : Int))) (by rw [show ((e : Int) : Int).toNat = e by omega]; have q := hI_ok hh (mi_u (j := e) (by omega)); rw [hu] at q; exact q) ?_
          refine sP 1 (g1 := (35, [some (.ref 53), some (sI ((e : Int))), some (sI ((t : Int))), some (sI 1), none], [sI ((t : Int)), sI ((s : Int))], h)) rfl ?_
          refine s_call (k := 149) (args := [sI ((s : Int)), sI ((t : Int))]) (st := []) (v := some (sI 1)) (h1 := h) rfl ⟨rfl, rfl⟩ rfl rfl rfl rfl rfl rfl vb ?_
          refine s_ifc (q := .ne) (a := 1) rfl ⟨_, rfl⟩ rfl (by unfold sR aMi aMa; omega) (fun hc6 => ?_) (fun hc6 => ?_)
          · have hc6 : (1 : Int) ≠ 0 := hc6
            refine sP 3 (g1 := (42, [some (.ref 53), some (sI ((e : Int))), some (sI ((t : Int))), some (sI 1), some (sI 0)], [.ref 53], h)) rfl ?_
            refine s_get (a := 53) (j := 18) hh rfl ⟨_, rfl⟩ rfl rfl rfl (v := .ref 66) (hR_ok hh (by decide +kernel)) ?_
            refine sP 2 (g1 := (45, [some (.ref 53), some (sI ((e : Int))), some (sI ((t : Int))), some (sI 1), some (sI 0)], [sI 1, sI ((e : Int)), .ref 66], h)) rfl ?_
            refine s_add (a := (e : Int)) (b := 1) rfl rfl ?_
            refine sP 1 (g1 := (47, [some (.ref 53), some (sI ((e : Int))), some (sI ((t : Int))), some (sI 1), some (sI 0)], [.ref 53, sI (((e : Int)) + 1), .ref 66], h)) rfl ?_
            refine s_get (a := 53) (j := 18) hh rfl ⟨_, rfl⟩ rfl rfl rfl (v := .ref 66) (hR_ok hh (by decide +kernel)) ?_
            refine sP 1 (g1 := (49, [some (.ref 53), some (sI ((e : Int))), some (sI ((t : Int))), some (sI 1), some (sI 0)], [sI ((e : Int)), .ref 66, sI (((e : Int)) + 1), .ref 66], h)) rfl ?_
            refine s_iald (a := 66) (n := 5) (j := (e : Int)) hh rfl rfl rfl (by omega) (by omega) (by decide) (v := sI ((s : Int))) (by rw [show ((e : Int) : Int).toNat = e by omega]; have q := hI_ok hh (mi_u (j := e) (by omega)); rw [hu] at q; exact q) ?_
            refine sP 2 (g1 := (52, [some (.ref 53), some (sI ((e : Int))), some (sI ((t : Int))), some (sI 1), some (sI 0)], [.ref 53, sI ((t : Int)), sI ((s : Int)), sI (((e : Int)) + 1), .ref 66], h)) rfl ?_
            refine s_get (a := 53) (j := 4) hh rfl ⟨_, rfl⟩ rfl rfl rfl (v := .ref 58) (hR_ok hh (by decide +kernel)) ?_
            refine sP 1 (g1 := (54, [some (.ref 53), some (sI ((e : Int))), some (sI ((t : Int))), some (sI 1), some (sI 0)], [sI 0, .ref 58, sI ((t : Int)), sI ((s : Int)), sI (((e : Int)) + 1), .ref 66], h)) rfl ?_
            refine s_iald (a := 58) (n := 201) (j := 0) hh rfl rfl rfl (by omega) (by omega) (by decide) (v := sI ((n : Int))) (by have q := hI_ok hh nw_p; rw [hn] at q; exact q) ?_
            refine s_icmp (q := .ge) (a := (t : Int)) (b := (n : Int)) rfl ⟨_, rfl⟩ rfl (by unfold sR aMi aMa; omega) (by unfold sR aMi aMa; omega) (fun hc7 => ?_) (fun hc7 => ?_)
            · have hc7 : (((n : Int)) : Int) ≤ ((t : Int)) := hc7
              omega
            · have hc7 : ¬ ((((n : Int)) : Int) ≤ ((t : Int))) := hc7
              refine sP 2 (g1 := (58, [some (.ref 53), some (sI ((e : Int))), some (sI ((t : Int))), some (sI 1), some (sI 0)], [sI ((t : Int)), sI 1, sI ((s : Int)), sI (((e : Int)) + 1), .ref 66], h)) rfl ?_
              refine s_shl7 (a := t) rfl rfl (by omega) ?_
              refine sP 1 (g1 := (61, [some (.ref 53), some (sI ((e : Int))), some (sI ((t : Int))), some (sI 1), some (sI 0)], [sI (((2 ^ t : Nat) : Int)), sI ((s : Int)), sI (((e : Int)) + 1), .ref 66], h)) rfl ?_
              refine s_b1 rfl rfl (b_or6 s hs (2 ^ t) (p26_lt t6)) ?_
              rw [ex]
              refine s_iast (a := 66) (n := 5) (j := ((e : Int)) + 1) hh rfl rfl (show sTg 66 = some (50, 5) from rfl) (by omega) (by omega) (by decide) ?_
              rw [show (((e : Int)) + 1 : Int).toNat = (e + 1) by omega]
              rw [← eg1]
              refine sP 1 (g1 := (64, [some (.ref 53), some (sI ((e : Int))), some (sI ((t : Int))), some (sI 1), some (sI 0)], [sI 0], g1)) rfl ?_
              exact s_reti rfl rfl (Or.inr ⟨rfl, by omega⟩) rfl rfl
          · have hc6 : ¬ ((1 : Int) ≠ 0) := hc6
            omega
        · have hc5 : ¬ ((((t : Int)) : Int) ≠ ((n : Int))) := hc5
          omega
    · rw [if_neg hb] at vb
      rw [show bt s t = false by cases hz : bt s t with | true => exact absurd hz hb | false => rfl]
      refine sP 1 (g1 := (1, [some (.ref 53), some (sI ((e : Int))), none, none, none], [.ref 53], h)) rfl ?_
      refine s_get (a := 53) (j := 19) hh rfl ⟨_, rfl⟩ rfl rfl rfl (v := .ref 67) (hR_ok hh (by decide +kernel)) ?_
      refine sP 1 (g1 := (3, [some (.ref 53), some (sI ((e : Int))), none, none, none], [sI ((e : Int)), .ref 67], h)) rfl ?_
      refine s_iald (a := 67) (n := 5) (j := (e : Int)) hh rfl rfl rfl (by omega) (by omega) (by decide) (v := sI ((t : Int))) (by rw [show ((e : Int) : Int).toNat = e by omega]; have q := hI_ok hh (mi_t (j := e) (by omega)); rw [ht] at q; exact q) ?_
      refine sP 2 (g1 := (6, [some (.ref 53), some (sI ((e : Int))), some (sI ((t : Int))), none, none], [.ref 53], h)) rfl ?_
      refine s_get (a := 53) (j := 18) hh rfl ⟨_, rfl⟩ rfl rfl rfl (v := .ref 66) (hR_ok hh (by decide +kernel)) ?_
      refine sP 1 (g1 := (8, [some (.ref 53), some (sI ((e : Int))), some (sI ((t : Int))), none, none], [sI ((e : Int)), .ref 66], h)) rfl ?_
      refine s_iald (a := 66) (n := 5) (j := (e : Int)) hh rfl rfl rfl (by omega) (by omega) (by decide) (v := sI ((s : Int))) (by rw [show ((e : Int) : Int).toNat = e by omega]; have q := hI_ok hh (mi_u (j := e) (by omega)); rw [hu] at q; exact q) ?_
      refine sP 2 (g1 := (11, [some (.ref 53), some (sI ((e : Int))), some (sI ((t : Int))), none, none], [.ref 53, sI 1, sI ((s : Int))], h)) rfl ?_
      refine s_get (a := 53) (j := 4) hh rfl ⟨_, rfl⟩ rfl rfl rfl (v := .ref 58) (hR_ok hh (by decide +kernel)) ?_
      refine sP 1 (g1 := (13, [some (.ref 53), some (sI ((e : Int))), some (sI ((t : Int))), none, none], [sI 0, .ref 58, sI 1, sI ((s : Int))], h)) rfl ?_
      refine s_iald (a := 58) (n := 201) (j := 0) hh rfl rfl rfl (by omega) (by omega) (by decide) (v := sI ((n : Int))) (by have q := hI_ok hh nw_p; rw [hn] at q; exact q) ?_
      refine s_shl7 (a := n) rfl rfl (by omega) ?_
      rw [hq]
      refine sP 1 (g1 := (16, [some (.ref 53), some (sI ((e : Int))), some (sI ((t : Int))), none, none], [sI 1, sI ((q : Int)), sI ((s : Int))], h)) rfl ?_
      refine s_sub (a := (q : Int)) (b := 1) rfl rfl ?_
      refine s_icmp (q := .ne) (a := (s : Int)) (b := ((q : Int)) - 1) rfl ⟨_, rfl⟩ rfl (by unfold sR aMi aMa; omega) (by unfold sR aMi aMa; omega) (fun hc1 => ?_) (fun hc1 => ?_)
      · have hc1 : (((s : Int)) : Int) ≠ (((q : Int)) - 1) := hc1
        refine sP 4 (g1 := (24, [some (.ref 53), some (sI ((e : Int))), some (sI ((t : Int))), some (sI 0), none], [.ref 53, sI ((t : Int))], h)) rfl ?_
        refine s_get (a := 53) (j := 4) hh rfl ⟨_, rfl⟩ rfl rfl rfl (v := .ref 58) (hR_ok hh (by decide +kernel)) ?_
        refine sP 1 (g1 := (26, [some (.ref 53), some (sI ((e : Int))), some (sI ((t : Int))), some (sI 0), none], [sI 0, .ref 58, sI ((t : Int))], h)) rfl ?_
        refine s_iald (a := 58) (n := 201) (j := 0) hh rfl rfl rfl (by omega) (by omega) (by decide) (v := sI ((n : Int))) (by have q := hI_ok hh nw_p; rw [hn] at q; exact q) ?_
        refine s_icmp (q := .ne) (a := (t : Int)) (b := (n : Int)) rfl ⟨_, rfl⟩ rfl (by unfold sR aMi aMa; omega) (by unfold sR aMi aMa; omega) (fun hc2 => ?_) (fun hc2 => ?_)
        · have hc2 : (((t : Int)) : Int) ≠ ((n : Int)) := hc2
          refine sP 1 (g1 := (31, [some (.ref 53), some (sI ((e : Int))), some (sI ((t : Int))), some (sI 0), none], [.ref 53], h)) rfl ?_
          refine s_get (a := 53) (j := 18) hh rfl ⟨_, rfl⟩ rfl rfl rfl (v := .ref 66) (hR_ok hh (by decide +kernel)) ?_
          refine sP 1 (g1 := (33, [some (.ref 53), some (sI ((e : Int))), some (sI ((t : Int))), some (sI 0), none], [sI ((e : Int)), .ref 66], h)) rfl ?_
          refine s_iald (a := 66) (n := 5) (j := (e : Int)) hh rfl rfl rfl (by omega) (by omega) (by decide) (v := sI ((s : Int))) (by rw [show ((e : Int) : Int).toNat = e by omega]; have q := hI_ok hh (mi_u (j := e) (by omega)); rw [hu] at q; exact q) ?_
          refine sP 1 (g1 := (35, [some (.ref 53), some (sI ((e : Int))), some (sI ((t : Int))), some (sI 0), none], [sI ((t : Int)), sI ((s : Int))], h)) rfl ?_
          refine s_call (k := 149) (args := [sI ((s : Int)), sI ((t : Int))]) (st := []) (v := some (sI 0)) (h1 := h) rfl ⟨rfl, rfl⟩ rfl rfl rfl rfl rfl rfl vb ?_
          refine s_ifc (q := .ne) (a := 0) rfl ⟨_, rfl⟩ rfl (by unfold sR aMi aMa; omega) (fun hc3 => ?_) (fun hc3 => ?_)
          · have hc3 : (0 : Int) ≠ 0 := hc3
            omega
          · have hc3 : ¬ ((0 : Int) ≠ 0) := hc3
            refine sP 4 (g1 := (42, [some (.ref 53), some (sI ((e : Int))), some (sI ((t : Int))), some (sI 0), some (sI 1)], [.ref 53], h)) rfl ?_
            refine s_get (a := 53) (j := 18) hh rfl ⟨_, rfl⟩ rfl rfl rfl (v := .ref 66) (hR_ok hh (by decide +kernel)) ?_
            refine sP 2 (g1 := (45, [some (.ref 53), some (sI ((e : Int))), some (sI ((t : Int))), some (sI 0), some (sI 1)], [sI 1, sI ((e : Int)), .ref 66], h)) rfl ?_
            refine s_add (a := (e : Int)) (b := 1) rfl rfl ?_
            refine sP 1 (g1 := (47, [some (.ref 53), some (sI ((e : Int))), some (sI ((t : Int))), some (sI 0), some (sI 1)], [.ref 53, sI (((e : Int)) + 1), .ref 66], h)) rfl ?_
            refine s_get (a := 53) (j := 18) hh rfl ⟨_, rfl⟩ rfl rfl rfl (v := .ref 66) (hR_ok hh (by decide +kernel)) ?_
            refine sP 1 (g1 := (49, [some (.ref 53), some (sI ((e : Int))), some (sI ((t : Int))), some (sI 0), some (sI 1)], [sI ((e : Int)), .ref 66, sI (((e : Int)) + 1), .ref 66], h)) rfl ?_
            refine s_iald (a := 66) (n := 5) (j := (e : Int)) hh rfl rfl rfl (by omega) (by omega) (by decide) (v := sI ((s : Int))) (by rw [show ((e : Int) : Int).toNat = e by omega]; have q := hI_ok hh (mi_u (j := e) (by omega)); rw [hu] at q; exact q) ?_
            refine sP 2 (g1 := (52, [some (.ref 53), some (sI ((e : Int))), some (sI ((t : Int))), some (sI 0), some (sI 1)], [.ref 53, sI ((t : Int)), sI ((s : Int)), sI (((e : Int)) + 1), .ref 66], h)) rfl ?_
            refine s_get (a := 53) (j := 4) hh rfl ⟨_, rfl⟩ rfl rfl rfl (v := .ref 58) (hR_ok hh (by decide +kernel)) ?_
            refine sP 1 (g1 := (54, [some (.ref 53), some (sI ((e : Int))), some (sI ((t : Int))), some (sI 0), some (sI 1)], [sI 0, .ref 58, sI ((t : Int)), sI ((s : Int)), sI (((e : Int)) + 1), .ref 66], h)) rfl ?_
            refine s_iald (a := 58) (n := 201) (j := 0) hh rfl rfl rfl (by omega) (by omega) (by decide) (v := sI ((n : Int))) (by have q := hI_ok hh nw_p; rw [hn] at q; exact q) ?_
            refine s_icmp (q := .ge) (a := (t : Int)) (b := (n : Int)) rfl ⟨_, rfl⟩ rfl (by unfold sR aMi aMa; omega) (by unfold sR aMi aMa; omega) (fun hc4 => ?_) (fun hc4 => ?_)
            · have hc4 : (((n : Int)) : Int) ≤ ((t : Int)) := hc4
              omega
            · have hc4 : ¬ ((((n : Int)) : Int) ≤ ((t : Int))) := hc4
              refine sP 2 (g1 := (58, [some (.ref 53), some (sI ((e : Int))), some (sI ((t : Int))), some (sI 0), some (sI 1)], [sI ((t : Int)), sI 1, sI ((s : Int)), sI (((e : Int)) + 1), .ref 66], h)) rfl ?_
              refine s_shl7 (a := t) rfl rfl (by omega) ?_
              refine sP 1 (g1 := (61, [some (.ref 53), some (sI ((e : Int))), some (sI ((t : Int))), some (sI 0), some (sI 1)], [sI (((2 ^ t : Nat) : Int)), sI ((s : Int)), sI (((e : Int)) + 1), .ref 66], h)) rfl ?_
              refine s_b1 rfl rfl (b_or6 s hs (2 ^ t) (p26_lt t6)) ?_
              rw [ex]
              refine s_iast (a := 66) (n := 5) (j := ((e : Int)) + 1) hh rfl rfl (show sTg 66 = some (50, 5) from rfl) (by omega) (by omega) (by decide) ?_
              rw [show (((e : Int)) + 1 : Int).toNat = (e + 1) by omega]
              rw [← eg1]
              refine sP 1 (g1 := (64, [some (.ref 53), some (sI ((e : Int))), some (sI ((t : Int))), some (sI 0), some (sI 1)], [sI 1], g1)) rfl ?_
              exact s_reti rfl rfl (Or.inr ⟨rfl, by omega⟩) rfl rfl
        · have hc2 : ¬ ((((t : Int)) : Int) ≠ ((n : Int))) := hc2
          omega
      · have hc1 : ¬ ((((s : Int)) : Int) ≠ (((q : Int)) - 1)) := hc1
        refine sP 5 (g1 := (24, [some (.ref 53), some (sI ((e : Int))), some (sI ((t : Int))), some (sI 1), none], [.ref 53, sI ((t : Int))], h)) rfl ?_
        refine s_get (a := 53) (j := 4) hh rfl ⟨_, rfl⟩ rfl rfl rfl (v := .ref 58) (hR_ok hh (by decide +kernel)) ?_
        refine sP 1 (g1 := (26, [some (.ref 53), some (sI ((e : Int))), some (sI ((t : Int))), some (sI 1), none], [sI 0, .ref 58, sI ((t : Int))], h)) rfl ?_
        refine s_iald (a := 58) (n := 201) (j := 0) hh rfl rfl rfl (by omega) (by omega) (by decide) (v := sI ((n : Int))) (by have q := hI_ok hh nw_p; rw [hn] at q; exact q) ?_
        refine s_icmp (q := .ne) (a := (t : Int)) (b := (n : Int)) rfl ⟨_, rfl⟩ rfl (by unfold sR aMi aMa; omega) (by unfold sR aMi aMa; omega) (fun hc5 => ?_) (fun hc5 => ?_)
        · have hc5 : (((t : Int)) : Int) ≠ ((n : Int)) := hc5
          refine sP 1 (g1 := (31, [some (.ref 53), some (sI ((e : Int))), some (sI ((t : Int))), some (sI 1), none], [.ref 53], h)) rfl ?_
          refine s_get (a := 53) (j := 18) hh rfl ⟨_, rfl⟩ rfl rfl rfl (v := .ref 66) (hR_ok hh (by decide +kernel)) ?_
          refine sP 1 (g1 := (33, [some (.ref 53), some (sI ((e : Int))), some (sI ((t : Int))), some (sI 1), none], [sI ((e : Int)), .ref 66], h)) rfl ?_
          refine s_iald (a := 66) (n := 5) (j := (e : Int)) hh rfl rfl rfl (by omega) (by omega) (by decide) (v := sI ((s : Int))) (by rw [show ((e : Int) : Int).toNat = e by omega]; have q := hI_ok hh (mi_u (j := e) (by omega)); rw [hu] at q; exact q) ?_
          refine sP 1 (g1 := (35, [some (.ref 53), some (sI ((e : Int))), some (sI ((t : Int))), some (sI 1), none], [sI ((t : Int)), sI ((s : Int))], h)) rfl ?_
          refine s_call (k := 149) (args := [sI ((s : Int)), sI ((t : Int))]) (st := []) (v := some (sI 0)) (h1 := h) rfl ⟨rfl, rfl⟩ rfl rfl rfl rfl rfl rfl vb ?_
          refine s_ifc (q := .ne) (a := 0) rfl ⟨_, rfl⟩ rfl (by unfold sR aMi aMa; omega) (fun hc6 => ?_) (fun hc6 => ?_)
          · have hc6 : (0 : Int) ≠ 0 := hc6
            omega
          · have hc6 : ¬ ((0 : Int) ≠ 0) := hc6
            refine sP 4 (g1 := (42, [some (.ref 53), some (sI ((e : Int))), some (sI ((t : Int))), some (sI 1), some (sI 1)], [.ref 53], h)) rfl ?_
            refine s_get (a := 53) (j := 18) hh rfl ⟨_, rfl⟩ rfl rfl rfl (v := .ref 66) (hR_ok hh (by decide +kernel)) ?_
            refine sP 2 (g1 := (45, [some (.ref 53), some (sI ((e : Int))), some (sI ((t : Int))), some (sI 1), some (sI 1)], [sI 1, sI ((e : Int)), .ref 66], h)) rfl ?_
            refine s_add (a := (e : Int)) (b := 1) rfl rfl ?_
            refine sP 1 (g1 := (47, [some (.ref 53), some (sI ((e : Int))), some (sI ((t : Int))), some (sI 1), some (sI 1)], [.ref 53, sI (((e : Int)) + 1), .ref 66], h)) rfl ?_
            refine s_get (a := 53) (j := 18) hh rfl ⟨_, rfl⟩ rfl rfl rfl (v := .ref 66) (hR_ok hh (by decide +kernel)) ?_
            refine sP 1 (g1 := (49, [some (.ref 53), some (sI ((e : Int))), some (sI ((t : Int))), some (sI 1), some (sI 1)], [sI ((e : Int)), .ref 66, sI (((e : Int)) + 1), .ref 66], h)) rfl ?_
            refine s_iald (a := 66) (n := 5) (j := (e : Int)) hh rfl rfl rfl (by omega) (by omega) (by decide) (v := sI ((s : Int))) (by rw [show ((e : Int) : Int).toNat = e by omega]; have q := hI_ok hh (mi_u (j := e) (by omega)); rw [hu] at q; exact q) ?_
            refine sP 2 (g1 := (52, [some (.ref 53), some (sI ((e : Int))), some (sI ((t : Int))), some (sI 1), some (sI 1)], [.ref 53, sI ((t : Int)), sI ((s : Int)), sI (((e : Int)) + 1), .ref 66], h)) rfl ?_
            refine s_get (a := 53) (j := 4) hh rfl ⟨_, rfl⟩ rfl rfl rfl (v := .ref 58) (hR_ok hh (by decide +kernel)) ?_
            refine sP 1 (g1 := (54, [some (.ref 53), some (sI ((e : Int))), some (sI ((t : Int))), some (sI 1), some (sI 1)], [sI 0, .ref 58, sI ((t : Int)), sI ((s : Int)), sI (((e : Int)) + 1), .ref 66], h)) rfl ?_
            refine s_iald (a := 58) (n := 201) (j := 0) hh rfl rfl rfl (by omega) (by omega) (by decide) (v := sI ((n : Int))) (by have q := hI_ok hh nw_p; rw [hn] at q; exact q) ?_
            refine s_icmp (q := .ge) (a := (t : Int)) (b := (n : Int)) rfl ⟨_, rfl⟩ rfl (by unfold sR aMi aMa; omega) (by unfold sR aMi aMa; omega) (fun hc7 => ?_) (fun hc7 => ?_)
            · have hc7 : (((n : Int)) : Int) ≤ ((t : Int)) := hc7
              omega
            · have hc7 : ¬ ((((n : Int)) : Int) ≤ ((t : Int))) := hc7
              refine sP 2 (g1 := (58, [some (.ref 53), some (sI ((e : Int))), some (sI ((t : Int))), some (sI 1), some (sI 1)], [sI ((t : Int)), sI 1, sI ((s : Int)), sI (((e : Int)) + 1), .ref 66], h)) rfl ?_
              refine s_shl7 (a := t) rfl rfl (by omega) ?_
              refine sP 1 (g1 := (61, [some (.ref 53), some (sI ((e : Int))), some (sI ((t : Int))), some (sI 1), some (sI 1)], [sI (((2 ^ t : Nat) : Int)), sI ((s : Int)), sI (((e : Int)) + 1), .ref 66], h)) rfl ?_
              refine s_b1 rfl rfl (b_or6 s hs (2 ^ t) (p26_lt t6)) ?_
              rw [ex]
              refine s_iast (a := 66) (n := 5) (j := ((e : Int)) + 1) hh rfl rfl (show sTg 66 = some (50, 5) from rfl) (by omega) (by omega) (by decide) ?_
              rw [show (((e : Int)) + 1 : Int).toNat = (e + 1) by omega]
              rw [← eg1]
              refine sP 1 (g1 := (64, [some (.ref 53), some (sI ((e : Int))), some (sI ((t : Int))), some (sI 1), some (sI 1)], [sI 1], g1)) rfl ?_
              exact s_reti rfl rfl (Or.inr ⟨rfl, by omega⟩) rfl rfl
        · have hc5 : ¬ ((((t : Int)) : Int) ≠ ((n : Int))) := hc5
          omega
  · rw [if_neg htl, if_neg htl]
    obtain ⟨g1, eg1⟩ : ∃ gz, gz = hset h 66 ((e + 1)) (sI (s : Int)) := ⟨_, rfl⟩
    have sg1 : ∀ xa xm, aSlot g1 xa xm = if xa = 66 ∧ xm = (e + 1) then some (sI (s : Int)) else aSlot h xa xm := fun xa xm => by rw [eg1]; exact hset_slot hh (show sTg 66 = some (50, 5) from rfl) (by omega) xa xm
    have hg1 : aHp g1 := by rw [eg1]; exact hset_ii hh (mi_ui (show e + 1 < 5 by omega)) (by omega) (by omega) (by unfold sR aMi aMa; omega)
    refine ⟨g1, nEv_of (t := mMe206) rfl ?_, hg1, sg1⟩
    show nRn sc (d + 1) (mMT mMe206) (mMC mMe206) (0, [some (.ref 53), some (sI (e : Int)), none, none, none], [], h) _
    by_cases hf : s + 1 = q
    · rw [show (if decide (s + 1 = q) = true then (1 : Int) else 0) = 1 by rw [decide_eq_true hf]; rfl]
      refine sP 1 (g1 := (1, [some (.ref 53), some (sI ((e : Int))), none, none, none], [.ref 53], h)) rfl ?_
      refine s_get (a := 53) (j := 19) hh rfl ⟨_, rfl⟩ rfl rfl rfl (v := .ref 67) (hR_ok hh (by decide +kernel)) ?_
      refine sP 1 (g1 := (3, [some (.ref 53), some (sI ((e : Int))), none, none, none], [sI ((e : Int)), .ref 67], h)) rfl ?_
      refine s_iald (a := 67) (n := 5) (j := (e : Int)) hh rfl rfl rfl (by omega) (by omega) (by decide) (v := sI ((t : Int))) (by rw [show ((e : Int) : Int).toNat = e by omega]; have q := hI_ok hh (mi_t (j := e) (by omega)); rw [ht] at q; exact q) ?_
      refine sP 2 (g1 := (6, [some (.ref 53), some (sI ((e : Int))), some (sI ((t : Int))), none, none], [.ref 53], h)) rfl ?_
      refine s_get (a := 53) (j := 18) hh rfl ⟨_, rfl⟩ rfl rfl rfl (v := .ref 66) (hR_ok hh (by decide +kernel)) ?_
      refine sP 1 (g1 := (8, [some (.ref 53), some (sI ((e : Int))), some (sI ((t : Int))), none, none], [sI ((e : Int)), .ref 66], h)) rfl ?_
      refine s_iald (a := 66) (n := 5) (j := (e : Int)) hh rfl rfl rfl (by omega) (by omega) (by decide) (v := sI ((s : Int))) (by rw [show ((e : Int) : Int).toNat = e by omega]; have q := hI_ok hh (mi_u (j := e) (by omega)); rw [hu] at q; exact q) ?_
      refine sP 2 (g1 := (11, [some (.ref 53), some (sI ((e : Int))), some (sI ((t : Int))), none, none], [.ref 53, sI 1, sI ((s : Int))], h)) rfl ?_
      refine s_get (a := 53) (j := 4) hh rfl ⟨_, rfl⟩ rfl rfl rfl (v := .ref 58) (hR_ok hh (by decide +kernel)) ?_
      refine sP 1 (g1 := (13, [some (.ref 53), some (sI ((e : Int))), some (sI ((t : Int))), none, none], [sI 0, .ref 58, sI 1, sI ((s : Int))], h)) rfl ?_
      refine s_iald (a := 58) (n := 201) (j := 0) hh rfl rfl rfl (by omega) (by omega) (by decide) (v := sI ((n : Int))) (by have q := hI_ok hh nw_p; rw [hn] at q; exact q) ?_
      refine s_shl7 (a := n) rfl rfl (by omega) ?_
      rw [hq]
      refine sP 1 (g1 := (16, [some (.ref 53), some (sI ((e : Int))), some (sI ((t : Int))), none, none], [sI 1, sI ((q : Int)), sI ((s : Int))], h)) rfl ?_
      refine s_sub (a := (q : Int)) (b := 1) rfl rfl ?_
      refine s_icmp (q := .ne) (a := (s : Int)) (b := ((q : Int)) - 1) rfl ⟨_, rfl⟩ rfl (by unfold sR aMi aMa; omega) (by unfold sR aMi aMa; omega) (fun hc1 => ?_) (fun hc1 => ?_)
      · have hc1 : (((s : Int)) : Int) ≠ (((q : Int)) - 1) := hc1
        omega
      · have hc1 : ¬ ((((s : Int)) : Int) ≠ (((q : Int)) - 1)) := hc1
        refine sP 5 (g1 := (24, [some (.ref 53), some (sI ((e : Int))), some (sI ((t : Int))), some (sI 1), none], [.ref 53, sI ((t : Int))], h)) rfl ?_
        refine s_get (a := 53) (j := 4) hh rfl ⟨_, rfl⟩ rfl rfl rfl (v := .ref 58) (hR_ok hh (by decide +kernel)) ?_
        refine sP 1 (g1 := (26, [some (.ref 53), some (sI ((e : Int))), some (sI ((t : Int))), some (sI 1), none], [sI 0, .ref 58, sI ((t : Int))], h)) rfl ?_
        refine s_iald (a := 58) (n := 201) (j := 0) hh rfl rfl rfl (by omega) (by omega) (by decide) (v := sI ((n : Int))) (by have q := hI_ok hh nw_p; rw [hn] at q; exact q) ?_
        refine s_icmp (q := .ne) (a := (t : Int)) (b := (n : Int)) rfl ⟨_, rfl⟩ rfl (by unfold sR aMi aMa; omega) (by unfold sR aMi aMa; omega) (fun hc2 => ?_) (fun hc2 => ?_)
        · have hc2 : (((t : Int)) : Int) ≠ ((n : Int)) := hc2
          omega
        · have hc2 : ¬ ((((t : Int)) : Int) ≠ ((n : Int))) := hc2
          refine sP 4 (g1 := (42, [some (.ref 53), some (sI ((e : Int))), some (sI ((t : Int))), some (sI 1), some (sI 1)], [.ref 53], h)) rfl ?_
          refine s_get (a := 53) (j := 18) hh rfl ⟨_, rfl⟩ rfl rfl rfl (v := .ref 66) (hR_ok hh (by decide +kernel)) ?_
          refine sP 2 (g1 := (45, [some (.ref 53), some (sI ((e : Int))), some (sI ((t : Int))), some (sI 1), some (sI 1)], [sI 1, sI ((e : Int)), .ref 66], h)) rfl ?_
          refine s_add (a := (e : Int)) (b := 1) rfl rfl ?_
          refine sP 1 (g1 := (47, [some (.ref 53), some (sI ((e : Int))), some (sI ((t : Int))), some (sI 1), some (sI 1)], [.ref 53, sI (((e : Int)) + 1), .ref 66], h)) rfl ?_
          refine s_get (a := 53) (j := 18) hh rfl ⟨_, rfl⟩ rfl rfl rfl (v := .ref 66) (hR_ok hh (by decide +kernel)) ?_
          refine sP 1 (g1 := (49, [some (.ref 53), some (sI ((e : Int))), some (sI ((t : Int))), some (sI 1), some (sI 1)], [sI ((e : Int)), .ref 66, sI (((e : Int)) + 1), .ref 66], h)) rfl ?_
          refine s_iald (a := 66) (n := 5) (j := (e : Int)) hh rfl rfl rfl (by omega) (by omega) (by decide) (v := sI ((s : Int))) (by rw [show ((e : Int) : Int).toNat = e by omega]; have q := hI_ok hh (mi_u (j := e) (by omega)); rw [hu] at q; exact q) ?_
          refine sP 2 (g1 := (52, [some (.ref 53), some (sI ((e : Int))), some (sI ((t : Int))), some (sI 1), some (sI 1)], [.ref 53, sI ((t : Int)), sI ((s : Int)), sI (((e : Int)) + 1), .ref 66], h)) rfl ?_
          refine s_get (a := 53) (j := 4) hh rfl ⟨_, rfl⟩ rfl rfl rfl (v := .ref 58) (hR_ok hh (by decide +kernel)) ?_
          refine sP 1 (g1 := (54, [some (.ref 53), some (sI ((e : Int))), some (sI ((t : Int))), some (sI 1), some (sI 1)], [sI 0, .ref 58, sI ((t : Int)), sI ((s : Int)), sI (((e : Int)) + 1), .ref 66], h)) rfl ?_
          refine s_iald (a := 58) (n := 201) (j := 0) hh rfl rfl rfl (by omega) (by omega) (by decide) (v := sI ((n : Int))) (by have q := hI_ok hh nw_p; rw [hn] at q; exact q) ?_
          refine s_icmp (q := .ge) (a := (t : Int)) (b := (n : Int)) rfl ⟨_, rfl⟩ rfl (by unfold sR aMi aMa; omega) (by unfold sR aMi aMa; omega) (fun hc3 => ?_) (fun hc3 => ?_)
          · have hc3 : (((n : Int)) : Int) ≤ ((t : Int)) := hc3
            refine sP 1 (g1 := (61, [some (.ref 53), some (sI ((e : Int))), some (sI ((t : Int))), some (sI 1), some (sI 1)], [sI 0, sI ((s : Int)), sI (((e : Int)) + 1), .ref 66], h)) rfl ?_
            refine s_b1 rfl rfl (b_or0 s (by omega)) ?_
            refine s_iast (a := 66) (n := 5) (j := ((e : Int)) + 1) hh rfl rfl (show sTg 66 = some (50, 5) from rfl) (by omega) (by omega) (by decide) ?_
            rw [show (((e : Int)) + 1 : Int).toNat = (e + 1) by omega]
            rw [← eg1]
            refine sP 1 (g1 := (64, [some (.ref 53), some (sI ((e : Int))), some (sI ((t : Int))), some (sI 1), some (sI 1)], [sI 1], g1)) rfl ?_
            exact s_reti rfl rfl (Or.inr ⟨rfl, by omega⟩) rfl rfl
          · have hc3 : ¬ ((((n : Int)) : Int) ≤ ((t : Int))) := hc3
            omega
    · rw [show (if decide (s + 1 = q) = true then (1 : Int) else 0) = 0 by rw [if_neg (by rw [decide_eq_true_iff]; exact hf)]]
      refine sP 1 (g1 := (1, [some (.ref 53), some (sI ((e : Int))), none, none, none], [.ref 53], h)) rfl ?_
      refine s_get (a := 53) (j := 19) hh rfl ⟨_, rfl⟩ rfl rfl rfl (v := .ref 67) (hR_ok hh (by decide +kernel)) ?_
      refine sP 1 (g1 := (3, [some (.ref 53), some (sI ((e : Int))), none, none, none], [sI ((e : Int)), .ref 67], h)) rfl ?_
      refine s_iald (a := 67) (n := 5) (j := (e : Int)) hh rfl rfl rfl (by omega) (by omega) (by decide) (v := sI ((t : Int))) (by rw [show ((e : Int) : Int).toNat = e by omega]; have q := hI_ok hh (mi_t (j := e) (by omega)); rw [ht] at q; exact q) ?_
      refine sP 2 (g1 := (6, [some (.ref 53), some (sI ((e : Int))), some (sI ((t : Int))), none, none], [.ref 53], h)) rfl ?_
      refine s_get (a := 53) (j := 18) hh rfl ⟨_, rfl⟩ rfl rfl rfl (v := .ref 66) (hR_ok hh (by decide +kernel)) ?_
      refine sP 1 (g1 := (8, [some (.ref 53), some (sI ((e : Int))), some (sI ((t : Int))), none, none], [sI ((e : Int)), .ref 66], h)) rfl ?_
      refine s_iald (a := 66) (n := 5) (j := (e : Int)) hh rfl rfl rfl (by omega) (by omega) (by decide) (v := sI ((s : Int))) (by rw [show ((e : Int) : Int).toNat = e by omega]; have q := hI_ok hh (mi_u (j := e) (by omega)); rw [hu] at q; exact q) ?_
      refine sP 2 (g1 := (11, [some (.ref 53), some (sI ((e : Int))), some (sI ((t : Int))), none, none], [.ref 53, sI 1, sI ((s : Int))], h)) rfl ?_
      refine s_get (a := 53) (j := 4) hh rfl ⟨_, rfl⟩ rfl rfl rfl (v := .ref 58) (hR_ok hh (by decide +kernel)) ?_
      refine sP 1 (g1 := (13, [some (.ref 53), some (sI ((e : Int))), some (sI ((t : Int))), none, none], [sI 0, .ref 58, sI 1, sI ((s : Int))], h)) rfl ?_
      refine s_iald (a := 58) (n := 201) (j := 0) hh rfl rfl rfl (by omega) (by omega) (by decide) (v := sI ((n : Int))) (by have q := hI_ok hh nw_p; rw [hn] at q; exact q) ?_
      refine s_shl7 (a := n) rfl rfl (by omega) ?_
      rw [hq]
      refine sP 1 (g1 := (16, [some (.ref 53), some (sI ((e : Int))), some (sI ((t : Int))), none, none], [sI 1, sI ((q : Int)), sI ((s : Int))], h)) rfl ?_
      refine s_sub (a := (q : Int)) (b := 1) rfl rfl ?_
      refine s_icmp (q := .ne) (a := (s : Int)) (b := ((q : Int)) - 1) rfl ⟨_, rfl⟩ rfl (by unfold sR aMi aMa; omega) (by unfold sR aMi aMa; omega) (fun hc1 => ?_) (fun hc1 => ?_)
      · have hc1 : (((s : Int)) : Int) ≠ (((q : Int)) - 1) := hc1
        refine sP 4 (g1 := (24, [some (.ref 53), some (sI ((e : Int))), some (sI ((t : Int))), some (sI 0), none], [.ref 53, sI ((t : Int))], h)) rfl ?_
        refine s_get (a := 53) (j := 4) hh rfl ⟨_, rfl⟩ rfl rfl rfl (v := .ref 58) (hR_ok hh (by decide +kernel)) ?_
        refine sP 1 (g1 := (26, [some (.ref 53), some (sI ((e : Int))), some (sI ((t : Int))), some (sI 0), none], [sI 0, .ref 58, sI ((t : Int))], h)) rfl ?_
        refine s_iald (a := 58) (n := 201) (j := 0) hh rfl rfl rfl (by omega) (by omega) (by decide) (v := sI ((n : Int))) (by have q := hI_ok hh nw_p; rw [hn] at q; exact q) ?_
        refine s_icmp (q := .ne) (a := (t : Int)) (b := (n : Int)) rfl ⟨_, rfl⟩ rfl (by unfold sR aMi aMa; omega) (by unfold sR aMi aMa; omega) (fun hc2 => ?_) (fun hc2 => ?_)
        · have hc2 : (((t : Int)) : Int) ≠ ((n : Int)) := hc2
          omega
        · have hc2 : ¬ ((((t : Int)) : Int) ≠ ((n : Int))) := hc2
          refine sP 4 (g1 := (42, [some (.ref 53), some (sI ((e : Int))), some (sI ((t : Int))), some (sI 0), some (sI 0)], [.ref 53], h)) rfl ?_
          refine s_get (a := 53) (j := 18) hh rfl ⟨_, rfl⟩ rfl rfl rfl (v := .ref 66) (hR_ok hh (by decide +kernel)) ?_
          refine sP 2 (g1 := (45, [some (.ref 53), some (sI ((e : Int))), some (sI ((t : Int))), some (sI 0), some (sI 0)], [sI 1, sI ((e : Int)), .ref 66], h)) rfl ?_
          refine s_add (a := (e : Int)) (b := 1) rfl rfl ?_
          refine sP 1 (g1 := (47, [some (.ref 53), some (sI ((e : Int))), some (sI ((t : Int))), some (sI 0), some (sI 0)], [.ref 53, sI (((e : Int)) + 1), .ref 66], h)) rfl ?_
          refine s_get (a := 53) (j := 18) hh rfl ⟨_, rfl⟩ rfl rfl rfl (v := .ref 66) (hR_ok hh (by decide +kernel)) ?_
          refine sP 1 (g1 := (49, [some (.ref 53), some (sI ((e : Int))), some (sI ((t : Int))), some (sI 0), some (sI 0)], [sI ((e : Int)), .ref 66, sI (((e : Int)) + 1), .ref 66], h)) rfl ?_
          refine s_iald (a := 66) (n := 5) (j := (e : Int)) hh rfl rfl rfl (by omega) (by omega) (by decide) (v := sI ((s : Int))) (by rw [show ((e : Int) : Int).toNat = e by omega]; have q := hI_ok hh (mi_u (j := e) (by omega)); rw [hu] at q; exact q) ?_
          refine sP 2 (g1 := (52, [some (.ref 53), some (sI ((e : Int))), some (sI ((t : Int))), some (sI 0), some (sI 0)], [.ref 53, sI ((t : Int)), sI ((s : Int)), sI (((e : Int)) + 1), .ref 66], h)) rfl ?_
          refine s_get (a := 53) (j := 4) hh rfl ⟨_, rfl⟩ rfl rfl rfl (v := .ref 58) (hR_ok hh (by decide +kernel)) ?_
          refine sP 1 (g1 := (54, [some (.ref 53), some (sI ((e : Int))), some (sI ((t : Int))), some (sI 0), some (sI 0)], [sI 0, .ref 58, sI ((t : Int)), sI ((s : Int)), sI (((e : Int)) + 1), .ref 66], h)) rfl ?_
          refine s_iald (a := 58) (n := 201) (j := 0) hh rfl rfl rfl (by omega) (by omega) (by decide) (v := sI ((n : Int))) (by have q := hI_ok hh nw_p; rw [hn] at q; exact q) ?_
          refine s_icmp (q := .ge) (a := (t : Int)) (b := (n : Int)) rfl ⟨_, rfl⟩ rfl (by unfold sR aMi aMa; omega) (by unfold sR aMi aMa; omega) (fun hc3 => ?_) (fun hc3 => ?_)
          · have hc3 : (((n : Int)) : Int) ≤ ((t : Int)) := hc3
            refine sP 1 (g1 := (61, [some (.ref 53), some (sI ((e : Int))), some (sI ((t : Int))), some (sI 0), some (sI 0)], [sI 0, sI ((s : Int)), sI (((e : Int)) + 1), .ref 66], h)) rfl ?_
            refine s_b1 rfl rfl (b_or0 s (by omega)) ?_
            refine s_iast (a := 66) (n := 5) (j := ((e : Int)) + 1) hh rfl rfl (show sTg 66 = some (50, 5) from rfl) (by omega) (by omega) (by decide) ?_
            rw [show (((e : Int)) + 1 : Int).toNat = (e + 1) by omega]
            rw [← eg1]
            refine sP 1 (g1 := (64, [some (.ref 53), some (sI ((e : Int))), some (sI ((t : Int))), some (sI 0), some (sI 0)], [sI 0], g1)) rfl ?_
            exact s_reti rfl rfl (Or.inr ⟨rfl, by omega⟩) rfl rfl
          · have hc3 : ¬ ((((n : Int)) : Int) ≤ ((t : Int))) := hc3
            omega
      · have hc1 : ¬ ((((s : Int)) : Int) ≠ (((q : Int)) - 1)) := hc1
        omega
noncomputable def mOf (e : Nat) (g g1 : mH) : Prop := ∀ p m, ¬ (p = 53 ∧ m = 14) → ¬ (p = 66 ∧ e < m) → ¬ (p = 67 ∧ e ≤ m) → ¬ (p = 68 ∧ e ≤ m) → aSlot g1 p m = aSlot g p m
noncomputable def mOs (e : Nat) (g g1 : mH) : Prop := ∀ p m, ¬ (p = 53 ∧ m = 14) → ¬ (p = 66 ∧ e < m) → ¬ (p = 67 ∧ e < m) → ¬ (p = 68 ∧ e ≤ m) → aSlot g1 p m = aSlot g p m
theorem fMsT {n N e t : Nat} {g : mH} (hg : aHp g) (he : e < 4) (hn : hI g 58 0 = n) (ht : hI g 67 e = (t : Int) - 1) (tn : t ≤ n + 1) : ∃ g1, aHp g1 ∧ (∀ p m, aSlot g1 p m = if p = 67 ∧ m = e then some (sI (t : Int)) else aSlot g p m) ∧ ∀ r, (t ≤ n → nRn sc (d + 6) (mMT mMe203) (mMC mMe203) (69, [some (.ref 53), some (sI ((N : Int))), some (sI ((e : Int)))], [], g1) r) → (n < t → nRn sc (d + 6) (mMT mMe203) (mMC mMe203) (56, [some (.ref 53), some (sI ((N : Int))), some (sI ((e : Int)))], [], g1) r) → nRn sc (d + 6) (mMT mMe203) (mMC mMe203) (37, [some (.ref 53), some (sI ((N : Int))), some (sI ((e : Int)))], [], g) r := by
  have gp := hI_rg hg nw_p
  obtain ⟨g1, eg1⟩ : ∃ gz, gz = hset g 67 e (sI (t : Int)) := ⟨_, rfl⟩
  have sg1 : ∀ xa xm, aSlot g1 xa xm = if xa = 67 ∧ xm = e then some (sI (t : Int)) else aSlot g xa xm := fun xa xm => by rw [eg1]; exact hset_slot hg (show sTg 67 = some (50, 5) from rfl) (by omega) xa xm
  have hg1 : aHp g1 := by rw [eg1]; exact hset_ii hg (mi_ti (show e < 5 by omega)) (by omega) (by omega) (by unfold sR aMi aMa; omega)
  have hn1 : hI g1 58 0 = n := (hI_cg (by rw [sg1, if_neg (by omega)])).trans hn
  have ht1 : hI g1 67 e = (t : Int) := hI_si (by rw [sg1, if_pos ⟨rfl, rfl⟩]) (by unfold sR aMi aMa; omega)
  refine ⟨g1, hg1, sg1, fun r r1 r2 => ?_⟩
  refine sP 1 (g1 := (38, [some (.ref 53), some (sI ((N : Int))), some (sI ((e : Int)))], [sI ((e : Int))], g)) rfl ?_
  refine s_ifc (q := .lt) (a := (e : Int)) rfl ⟨_, rfl⟩ rfl (by unfold sR aMi aMa; omega) (fun hc1 => ?_) (fun hc1 => ?_)
  · have hc1 : (((e : Int)) : Int) < 0 := hc1
    omega
  · have hc1 : ¬ ((((e : Int)) : Int) < 0) := hc1
    refine sP 1 (g1 := (40, [some (.ref 53), some (sI ((N : Int))), some (sI ((e : Int)))], [.ref 53], g)) rfl ?_
    refine s_get (a := 53) (j := 19) hg rfl ⟨_, rfl⟩ rfl rfl rfl (v := .ref 67) (hR_ok hg (by decide +kernel)) ?_
    refine sP 2 (g1 := (43, [some (.ref 53), some (sI ((N : Int))), some (sI ((e : Int)))], [sI ((e : Int)), .ref 67, sI ((e : Int)), .ref 67], g)) rfl ?_
    refine s_iald (a := 67) (n := 5) (j := (e : Int)) hg rfl rfl rfl (by omega) (by omega) (by decide) (v := sI ((t : Int) - 1)) (by rw [show ((e : Int) : Int).toNat = e by omega]; have q := hI_ok hg (mi_t (j := e) (by omega)); rw [ht] at q; exact q) ?_
    refine sP 1 (g1 := (45, [some (.ref 53), some (sI ((N : Int))), some (sI ((e : Int)))], [sI 1, sI ((t : Int) - 1), sI ((e : Int)), .ref 67], g)) rfl ?_
    refine s_add (a := (t : Int) - 1) (b := 1) rfl rfl ?_
    refine s_iast (a := 67) (n := 5) (j := (e : Int)) hg rfl rfl (show sTg 67 = some (50, 5) from rfl) (by omega) (by omega) (by decide) ?_
    rw [show ((e : Int) : Int).toNat = e by omega]
    rw [show ((t : Int) - 1 + 1) = (t : Int) by omega]
    rw [← eg1]
    refine sP 1 (g1 := (48, [some (.ref 53), some (sI ((N : Int))), some (sI ((e : Int)))], [.ref 53], g1)) rfl ?_
    refine s_get (a := 53) (j := 19) hg1 rfl ⟨_, rfl⟩ rfl rfl rfl (v := .ref 67) (hR_ok hg1 (by decide +kernel)) ?_
    refine sP 1 (g1 := (50, [some (.ref 53), some (sI ((N : Int))), some (sI ((e : Int)))], [sI ((e : Int)), .ref 67], g1)) rfl ?_
    refine s_iald (a := 67) (n := 5) (j := (e : Int)) hg1 rfl rfl rfl (by omega) (by omega) (by decide) (v := sI ((t : Int))) (by rw [show ((e : Int) : Int).toNat = e by omega]; have q := hI_ok hg1 (mi_t (j := e) (by omega)); rw [ht1] at q; exact q) ?_
    refine sP 1 (g1 := (52, [some (.ref 53), some (sI ((N : Int))), some (sI ((e : Int)))], [.ref 53, sI ((t : Int))], g1)) rfl ?_
    refine s_get (a := 53) (j := 4) hg1 rfl ⟨_, rfl⟩ rfl rfl rfl (v := .ref 58) (hR_ok hg1 (by decide +kernel)) ?_
    refine sP 1 (g1 := (54, [some (.ref 53), some (sI ((N : Int))), some (sI ((e : Int)))], [sI 0, .ref 58, sI ((t : Int))], g1)) rfl ?_
    refine s_iald (a := 58) (n := 201) (j := 0) hg1 rfl rfl rfl (by omega) (by omega) (by decide) (v := sI ((n : Int))) (by have q := hI_ok hg1 nw_p; rw [hn1] at q; exact q) ?_
    refine s_icmp (q := .le) (a := (t : Int)) (b := (n : Int)) rfl ⟨_, rfl⟩ rfl (by unfold sR aMi aMa; omega) (by unfold sR aMi aMa; omega) (fun hc2 => ?_) (fun hc2 => ?_)
    · have hc2 : (((t : Int)) : Int) ≤ ((n : Int)) := hc2
      exact r1 (by omega)
    · have hc2 : ¬ ((((t : Int)) : Int) ≤ ((n : Int))) := hc2
      exact r2 (by omega)
noncomputable def mQ (sc : List Int32) (d N : Nat) (h : mH) (v : Nat → Int) (l : Nat) : Prop := ∀ (x e : Nat) (b : Int) (g : mH), x < 64 → e + 1 + l = 2 * N → -9 ≤ b ∧ b ≤ 100 → aHp g → (∀ m, aSlot g 58 m = aSlot h 58 m) → hI g 66 (e + 1) = (x : Int) → hI g 68 e = b → ∃ g1, aHp g1 ∧ mOs e g g1 ∧ hI g1 68 e = tnB (1 - (e : Int) % 2) b (v x) ∧ ∀ r, nRn sc (d + 6) (mMT mMe203) (mMC mMe203) (37, [some (.ref 53), some (sI ((N : Int))), some (sI ((e : Int)))], [], g1) r → nRn sc (d + 6) (mMT mMe203) (mMC mMe203) (73, [some (.ref 53), some (sI ((N : Int))), some (sI ((e : Int)))], [], g) r
theorem fMsI {n N l : Nat} {v : Nat → Int} (hn : hI h 58 0 = n) (n6 : n ≤ 6) (hN : N ≤ 2) (rv : ∀ x, -9 ≤ v x ∧ v x ≤ 100) (hQ : mQ sc d N h v l) {e s : Nat} (he : e + 1 + l = 2 * N) (hs : s < 64) : ∀ (k t : Nat) (b : Int) (g : mH), t + k = n + 1 → -9 ≤ b ∧ b ≤ 100 → aHp g → (∀ m, aSlot g 58 m = aSlot h 58 m) → hI g 66 e = (s : Int) → hI g 67 e = (t : Int) - 1 → hI g 68 e = b → ∃ g1, aHp g1 ∧ mOf e g g1 ∧ hI g1 68 e = tnG n s (1 - (e : Int) % 2) v k t b ∧ ∀ r, nRn sc (d + 6) (mMT mMe203) (mMC mMe203) (56, [some (.ref 53), some (sI ((N : Int))), some (sI ((e : Int)))], [], g1) r → nRn sc (d + 6) (mMT mMe203) (mMC mMe203) (37, [some (.ref 53), some (sI ((N : Int))), some (sI ((e : Int)))], [], g) r := by
  intro k
  induction k with
  | zero =>
    intro t b g htk rb hg h58 hu ht hb
    obtain ⟨g1, i1, i2, i3⟩ := fMsT (sc := sc) (d := d) (n := n) (N := N) (e := e) (t := t) hg (by omega) ((hI_cg (h58 0)).trans hn) ht (by omega)
    refine ⟨g1, i1, fun p m w1 w2 w3 w4 => by rw [i2, if_neg (by omega)], ?_, fun r r1 => i3 r (fun w => absurd w (by omega)) (fun _ => r1)⟩
    rw [hI_cg (show aSlot g1 68 e = aSlot g 68 e by rw [i2, if_neg (by omega)]), hb]
    rfl
  | succ k ih =>
    intro t b g htk rb hg h58 hu ht hb
    obtain ⟨g1, i1, i2, i3⟩ := fMsT (sc := sc) (d := d) (n := n) (N := N) (e := e) (t := t) hg (by omega) ((hI_cg (h58 0)).trans hn) ht (by omega)
    have hn1 : hI g1 58 0 = n := (hI_cg (by rw [i2, if_neg (by omega)])).trans ((hI_cg (h58 0)).trans hn)
    have hu1 : hI g1 66 e = (s : Int) := (hI_cg (by rw [i2, if_neg (by omega)])).trans hu
    have ht1 : hI g1 67 e = (t : Int) := hI_si (by rw [i2, if_pos ⟨rfl, rfl⟩]) (by unfold sR aMi aMa; omega)
    obtain ⟨g2, ev, j1, j2⟩ := fSends (sc := sc) (d := d + 4) (n := n) (e := e) (s := s) (t := t) i1 (by omega) hn1 hu1 hs ht1 (by omega)
    have f2 : ∀ p m, ¬ (p = 66 ∧ m = e + 1) → ¬ (p = 67 ∧ m = e) → aSlot g2 p m = aSlot g p m := fun p m w1 w2 => by rw [j2, if_neg w1, i2, if_neg w2]
    have h2 : ∀ m, aSlot g2 58 m = aSlot h 58 m := fun m => (f2 58 m (by omega) (by omega)).trans (h58 m)
    have hu2 : hI g2 66 e = (s : Int) := (hI_cg (f2 66 e (by omega) (by omega))).trans hu
    have ht2 : hI g2 67 e = (t : Int) := (hI_cg (show aSlot g2 67 e = aSlot g1 67 e by rw [j2, if_neg (by omega)])).trans ht1
    have hb2 : hI g2 68 e = b := (hI_cg (f2 68 e (by omega) (by omega))).trans hb
    have xl : tnS n s t < 64 := by
      unfold tnS
      split
      · exact or6_lt hs (p26_lt (by omega))
      · exact hs
    have hx2 : hI g2 66 (e + 1) = ((tnS n s t : Nat) : Int) := hI_si (by rw [j2, if_pos ⟨rfl, rfl⟩]) (by unfold sR aMi aMa; omega)
    have e1 : tnG n s (1 - (e : Int) % 2) v (k + 1) t b = tnG n s (1 - (e : Int) % 2) v k (t + 1) (if tnD n s t = true then tnB (1 - (e : Int) % 2) b (v (tnS n s t)) else b) := rfl
    rw [e1]
    by_cases hd : tnD n s t = true
    · rw [if_pos hd] at ev ⊢
      obtain ⟨g3, k1, k2, k3, k4⟩ := hQ (tnS n s t) e b g2 xl he rb j1 h2 hx2 hb2
      obtain ⟨g4, l1, l2, l3, l4⟩ := ih (t + 1) (tnB (1 - (e : Int) % 2) b (v (tnS n s t))) g3 (by omega) (tnB_rg rb (rv _)) k1 (fun m => (k2 58 m (by omega) (by omega) (by omega) (by omega)).trans (h2 m)) ((hI_cg (k2 66 e (by omega) (by omega) (by omega) (by omega))).trans hu2) (by rw [hI_cg (k2 67 e (by omega) (by omega) (by omega) (by omega)), ht2]; omega) k3
      refine ⟨g4, l1, fun p m w1 w2 w3 w4 => by rw [l2 p m w1 w2 w3 w4, k2 p m w1 w2 (by omega) w4, f2 p m (by omega) (by omega)], l3, fun r r1 => ?_⟩
      have r0 := k4 r (l4 r r1)
      refine i3 r (fun _ => ?_) (fun w => absurd w (by omega))
      refine sP 2 (g1 := (71, [some (.ref 53), some (sI ((N : Int))), some (sI ((e : Int)))], [sI ((e : Int)), .ref 53], g1)) rfl ?_
      refine s_call (k := 206) (args := [.ref 53, sI ((e : Int))]) (st := []) (v := some (sI 1)) (h1 := g2) rfl ⟨rfl, rfl⟩ rfl rfl rfl rfl (sRcv i1 (a := 53) rfl rfl) rfl ev ?_
      refine s_ifc (q := .eq) (a := 1) rfl ⟨_, rfl⟩ rfl (by unfold sR aMi aMa; omega) (fun hc1 => ?_) (fun hc1 => ?_)
      · have hc1 : (1 : Int) = 0 := hc1
        omega
      · have hc1 : ¬ ((1 : Int) = 0) := hc1
        exact r0
    · rw [if_neg hd] at ev ⊢
      obtain ⟨g4, l1, l2, l3, l4⟩ := ih (t + 1) b g2 (by omega) rb j1 h2 hu2 (by rw [ht2]; omega) hb2
      refine ⟨g4, l1, fun p m w1 w2 w3 w4 => by rw [l2 p m w1 w2 w3 w4, f2 p m (by omega) (by omega)], l3, fun r r1 => ?_⟩
      have r0 := l4 r r1
      refine i3 r (fun _ => ?_) (fun w => absurd w (by omega))
      refine sP 2 (g1 := (71, [some (.ref 53), some (sI ((N : Int))), some (sI ((e : Int)))], [sI ((e : Int)), .ref 53], g1)) rfl ?_
      refine s_call (k := 206) (args := [.ref 53, sI ((e : Int))]) (st := []) (v := some (sI 0)) (h1 := g2) rfl ⟨rfl, rfl⟩ rfl rfl rfl rfl (sRcv i1 (a := 53) rfl rfl) rfl ev ?_
      refine s_ifc (q := .eq) (a := 0) rfl ⟨_, rfl⟩ rfl (by unfold sR aMi aMa; omega) (fun hc1 => ?_) (fun hc1 => ?_)
      · have hc1 : (0 : Int) = 0 := hc1
        exact r0
      · have hc1 : ¬ ((0 : Int) = 0) := hc1
        omega
theorem fMsQ {n N : Nat} {ag : Nat → Int} (hn : hI h 58 0 = n) (n6 : n ≤ 6) (hN : N ≤ 2) (ra : ∀ x, -9 ≤ ag x ∧ ag x ≤ 100) (ha : ∀ x : Nat, x < 64 → ∀ g, aHp g → (∀ m, aSlot g 58 m = aSlot h 58 m) → ∃ g1, nEv sc (d + 6) 185 [.ref 53, sI (x : Int)] g (some (sI (ag x)), g1) ∧ aHp g1 ∧ fpOff g g1) : ∀ l, l < 4 → mQ sc d N h (tnV ag n l) l := by
  intro l
  induction l with
  | zero =>
    intro _ x e b g hx he rb hg h58 hu hb
    obtain ⟨g1, ev, i1, i2⟩ := ha x hx g hg h58
    have hb1 : hI g1 68 e = b := (hI_cg (i2 68 e (by omega))).trans hb
    have rx := ra x
    obtain ⟨g2, ew, j1, j2⟩ := fWeighs (sc := sc) (d := d + 5) (e := e) (b := b) (v := ag x) i1 (by omega) hb1 rb rx
    refine ⟨g2, j1, fun p m w1 w2 w3 w4 => by rw [j2, if_neg (by omega), i2 p m (by omega)], hI_si (by rw [j2, if_pos ⟨rfl, rfl⟩]; rfl) (by have := tnB_rg (W := 1 - (e : Int) % 2) rb rx; unfold sR aMi aMa; show _ ≤ tnB _ b (ag x) ∧ tnB _ b (ag x) ≤ _; omega), fun r r1 => ?_⟩
    refine sP 2 (g1 := (75, [some (.ref 53), some (sI ((N : Int))), some (sI ((e : Int)))], [sI 1, sI ((e : Int))], g)) rfl ?_
    refine s_add (a := (e : Int)) (b := 1) rfl rfl ?_
    refine sP 2 (g1 := (78, [some (.ref 53), some (sI ((N : Int))), some (sI ((e : Int)))], [sI ((N : Int)), sI 2, sI (((e : Int)) + 1)], g)) rfl ?_
    refine s_mul (a := 2) (b := (N : Int)) rfl rfl ?_
    refine s_icmp (q := .ne) (a := ((e : Int)) + 1) (b := 2 * ((N : Int))) rfl ⟨_, rfl⟩ rfl (by unfold sR aMi aMa; omega) (by unfold sR aMi aMa; omega) (fun hc1 => ?_) (fun hc1 => ?_)
    · have hc1 : ((((e : Int)) + 1) : Int) ≠ (2 * ((N : Int))) := hc1
      omega
    · have hc1 : ¬ (((((e : Int)) + 1) : Int) ≠ (2 * ((N : Int)))) := hc1
      refine sP 4 (g1 := (84, [some (.ref 53), some (sI ((N : Int))), some (sI ((e : Int)))], [.ref 53, .ref 53, sI ((e : Int)), .ref 53], g)) rfl ?_
      refine s_get (a := 53) (j := 18) hg rfl ⟨_, rfl⟩ rfl rfl rfl (v := .ref 66) (hR_ok hg (by decide +kernel)) ?_
      refine sP 2 (g1 := (87, [some (.ref 53), some (sI ((N : Int))), some (sI ((e : Int)))], [sI 1, sI ((e : Int)), .ref 66, .ref 53, sI ((e : Int)), .ref 53], g)) rfl ?_
      refine s_add (a := (e : Int)) (b := 1) rfl rfl ?_
      refine s_iald (a := 66) (n := 5) (j := ((e : Int)) + 1) hg rfl rfl rfl (by omega) (by omega) (by decide) (v := sI ((x : Int))) (by rw [show (((e : Int)) + 1 : Int).toNat = e + 1 by omega]; have q := hI_ok hg (mi_u (j := e + 1) (by omega)); rw [hu] at q; exact q) ?_
      refine s_call (k := 185) (args := [.ref 53, sI ((x : Int))]) (st := [sI ((e : Int)), .ref 53]) (v := some (sI (ag x))) (h1 := g1) rfl ⟨rfl, rfl⟩ rfl rfl rfl rfl (sRcv hg (a := 53) rfl rfl) rfl ev ?_
      refine s_call (k := 205) (args := [.ref 53, sI ((e : Int)), sI (ag x)]) (st := []) (v := none) (h1 := g2) rfl ⟨rfl, rfl⟩ rfl rfl rfl rfl (sRcv i1 (a := 53) rfl rfl) rfl ew ?_
      refine sP 1 (g1 := (37, [some (.ref 53), some (sI ((N : Int))), some (sI ((e : Int)))], [], g2)) rfl ?_
      exact r1
  | succ l ih =>
    intro hl4 x e b g hx he rb hg h58 hu hb
    obtain ⟨g1, ev, i1, i2⟩ := fBegins (sc := sc) (d := d + 5) (h := g) (e := e + 1) hg (by omega)
    have f1 : ∀ p m, ¬ (p = 68 ∧ m = e + 1) → ¬ (p = 67 ∧ m = e + 1) → aSlot g1 p m = aSlot g p m := fun p m w1 w2 => by rw [i2, if_neg w1, if_neg w2]
    have rv := tnV_rg (n := n) ra
    obtain ⟨g2, j1, j2, j3, j4⟩ := fMsI (sc := sc) (d := d) hn n6 hN (rv l) (ih (by omega)) (e := e + 1) (s := x) (by omega) hx (n + 1) 0 (-9) g1 (by omega) (by omega) i1 (fun m => (f1 58 m (by omega) (by omega)).trans (h58 m)) ((hI_cg (f1 66 (e + 1) (by omega) (by omega))).trans hu) (hI_si (v := ((0 : Nat) : Int) - 1) (by rw [i2, if_neg (by omega), if_pos ⟨rfl, rfl⟩]; rfl) (by unfold sR aMi aMa; omega)) (hI_si (by rw [i2, if_pos ⟨rfl, rfl⟩]) (by unfold sR aMi aMa; omega))
    rw [show (1 - ((e + 1 : Nat) : Int) % 2) = 1 - ((l + 1 : Nat) : Int) % 2 by omega, tnG_V n6 hx] at j3
    have f2 : ∀ p m, ¬ (p = 53 ∧ m = 14) → ¬ (p = 66 ∧ e + 1 < m) → ¬ (p = 67 ∧ e + 1 ≤ m) → ¬ (p = 68 ∧ e + 1 ≤ m) → aSlot g2 p m = aSlot g p m := fun p m w1 w2 w3 w4 => by rw [j2 p m w1 w2 w3 w4, f1 p m (by omega) (by omega)]
    have hb2 : hI g2 68 e = b := (hI_cg (f2 68 e (by omega) (by omega) (by omega) (by omega))).trans hb
    have rx := rv (l + 1) x
    obtain ⟨y, ey⟩ : ∃ y, tnV ag n (l + 1) x = y := ⟨_, rfl⟩
    rw [ey] at j3 rx ⊢
    obtain ⟨g3, ew, k1, k2⟩ := fWeighs (sc := sc) (d := d + 5) (e := e) (b := b) (v := y) j1 (by omega) hb2 rb rx
    refine ⟨g3, k1, fun p m w1 w2 w3 w4 => by rw [k2, if_neg (by omega), f2 p m w1 (by omega) (by omega) (by omega)], hI_si (by rw [k2, if_pos ⟨rfl, rfl⟩]) (by have := tnB_rg (W := 1 - (e : Int) % 2) rb rx; unfold sR aMi aMa; omega), fun r r1 => ?_⟩
    refine sP 2 (g1 := (75, [some (.ref 53), some (sI ((N : Int))), some (sI ((e : Int)))], [sI 1, sI ((e : Int))], g)) rfl ?_
    refine s_add (a := (e : Int)) (b := 1) rfl rfl ?_
    refine sP 2 (g1 := (78, [some (.ref 53), some (sI ((N : Int))), some (sI ((e : Int)))], [sI ((N : Int)), sI 2, sI (((e : Int)) + 1)], g)) rfl ?_
    refine s_mul (a := 2) (b := (N : Int)) rfl rfl ?_
    refine s_icmp (q := .ne) (a := ((e : Int)) + 1) (b := 2 * ((N : Int))) rfl ⟨_, rfl⟩ rfl (by unfold sR aMi aMa; omega) (by unfold sR aMi aMa; omega) (fun hc1 => ?_) (fun hc1 => ?_)
    · have hc1 : ((((e : Int)) + 1) : Int) ≠ (2 * ((N : Int))) := hc1
      refine s_inc (a := (e : Int)) (n := 1) (k := 2) rfl rfl rfl ?_
      rw [show ((e : Int) + 1) = ((e + 1 : Nat) : Int) by omega]
      refine sP 2 (g1 := (95, [some (.ref 53), some (sI ((N : Int))), some (sI (((e + 1 : Nat) : Int)))], [sI (((e + 1 : Nat) : Int)), .ref 53], g)) rfl ?_
      refine s_call (k := 204) (args := [.ref 53, sI (((e + 1 : Nat) : Int))]) (st := []) (v := none) (h1 := g1) rfl ⟨rfl, rfl⟩ rfl rfl rfl rfl (sRcv hg (a := 53) rfl rfl) rfl ev ?_
      refine sP 1 (g1 := (37, [some (.ref 53), some (sI ((N : Int))), some (sI (((e + 1 : Nat) : Int)))], [], g1)) rfl ?_
      refine j4 _ ?_
      refine s_inc (a := ((e + 1 : Nat) : Int)) (n := (-1)) (k := 2) rfl rfl rfl ?_
      rw [show (((e + 1 : Nat) : Int) + (-1)) = (e : Int) by omega]
      refine sP 1 (g1 := (58, [some (.ref 53), some (sI ((N : Int))), some (sI ((e : Int)))], [sI ((e : Int))], g2)) rfl ?_
      refine s_ifc (q := .lt) (a := (e : Int)) rfl ⟨_, rfl⟩ rfl (by unfold sR aMi aMa; omega) (fun hc71 => ?_) (fun hc71 => ?_)
      · have hc71 : (((e : Int)) : Int) < 0 := hc71
        omega
      · have hc71 : ¬ ((((e : Int)) : Int) < 0) := hc71
        refine sP 3 (g1 := (62, [some (.ref 53), some (sI ((N : Int))), some (sI ((e : Int)))], [.ref 53, sI ((e : Int)), .ref 53], g2)) rfl ?_
        refine s_get (a := 53) (j := 20) j1 rfl ⟨_, rfl⟩ rfl rfl rfl (v := .ref 68) (hR_ok j1 (by decide +kernel)) ?_
        refine sP 2 (g1 := (65, [some (.ref 53), some (sI ((N : Int))), some (sI ((e : Int)))], [sI 1, sI ((e : Int)), .ref 68, sI ((e : Int)), .ref 53], g2)) rfl ?_
        refine s_add (a := (e : Int)) (b := 1) rfl rfl ?_
        refine s_iald (a := 68) (n := 5) (j := ((e : Int)) + 1) j1 rfl rfl rfl (by omega) (by omega) (by decide) (v := sI y) (by rw [show (((e : Int)) + 1 : Int).toNat = e + 1 by omega]; have q := hI_ok j1 (mi_b (j := e + 1) (by omega)); rw [j3] at q; exact q) ?_
        refine s_call (k := 205) (args := [.ref 53, sI ((e : Int)), sI y]) (st := []) (v := none) (h1 := g3) rfl ⟨rfl, rfl⟩ rfl rfl rfl rfl (sRcv j1 (a := 53) rfl rfl) rfl ew ?_
        refine sP 1 (g1 := (37, [some (.ref 53), some (sI ((N : Int))), some (sI ((e : Int)))], [], g3)) rfl ?_
        exact r1
    · have hc1 : ¬ (((((e : Int)) + 1) : Int) ≠ (2 * ((N : Int)))) := hc1
      omega
theorem sM_58 {g : mH} (ho : ∀ m, aSlot g 58 m = aSlot h 58 m) (n a s : Nat) : sM g n a s = sM h n a s := by
  have e1 : (fun j => hI g 58 (7 + j)) = (fun j => hI h 58 (7 + j)) := funext (fun j => hI_cg (ho _))
  unfold sM
  rw [e1, hI_cg (ho (1 + a))]
theorem agM_58 {g : mH} (ho : ∀ m, aSlot g 58 m = aSlot h 58 m) (n s : Nat) : agM g n s = agM h n s := by
  funext a b
  unfold agM
  rw [sM_58 ho, sM_58 ho]
noncomputable def tnO (h g : mH) : Prop := ∀ p m, ¬ (p = 53 ∧ m = 14) → p ≠ 66 → p ≠ 67 → p ≠ 68 → aSlot g p m = aSlot h p m
theorem fMissM {n N s : Nat} (hh : aHp h) (hn : hI h 58 0 = n) (n0 : n ≠ 0) (hN : N ≤ 2) (hu : hI h 58 43 = (s : Int)) : ∃ g, nEv sc (d + 7) 203 [.ref 53, sI (N : Int)] h (some (sI (tnV (fun x => ((oC (agM h n x) n n 0 : Nat) : Int)) n (2 * N) s)), g) ∧ aHp g ∧ tnO h g := by
  have gp := hI_rg hh nw_p
  have gu := hI_rg hh nw_u
  have n6 : n ≤ 6 := by omega
  have s64 : s < 64 := by omega
  have ra : ∀ x, -9 ≤ ((oC (agM h n x) n n 0 : Nat) : Int) ∧ ((oC (agM h n x) n n 0 : Nat) : Int) ≤ 100 := fun x => by
    have := oC_le (agM h n x) n6 n 0
    omega
  have ha : ∀ x : Nat, x < 64 → ∀ g, aHp g → (∀ m, aSlot g 58 m = aSlot h 58 m) → ∃ g1, nEv sc (d + 6) 185 [.ref 53, sI (x : Int)] g (some (sI ((oC (agM h n x) n n 0 : Nat) : Int)), g1) ∧ aHp g1 ∧ fpOff g g1 := fun x hx g hg ho => by
    obtain ⟨g1, a1, a2, a3, -⟩ := fPairs (sc := sc) (d := d + 1) (h := g) (n := n) (s := x) hg ((hI_cg (ho 0)).trans hn) hx
    rw [agM_58 ho] at a1
    exact ⟨g1, a1, a2, a3⟩
  have vI := fIn (sc := sc) (d := d + 5) (h := h) (a := (N : Int)) (b := 0) (e := 2) (by omega) (by omega) (by omega) (by omega) (by omega) (by omega)
  rw [if_pos (by omega)] at vI
  by_cases c0 : N = 0
  · subst c0
    obtain ⟨g1, a1, a2, a3⟩ := ha s s64 h hh (fun _ => rfl)
    refine ⟨g1, nEv_of (t := mMe203) rfl ?_, a2, fun p m w _ _ _ => a3 p m w⟩
    show nRn sc (d + 6) (mMT mMe203) (mMC mMe203) (0, [some (.ref 53), some (sI 0), none], [], h) (some (sI ((oC (agM h n s) n n 0 : Nat) : Int)), g1)
    refine sP 1 (g1 := (1, [some (.ref 53), some (sI 0), none], [sI 0], h)) rfl ?_
    refine s_i2l (a := 0) rfl rfl (by unfold sR aMi aMa; omega) ?_
    refine sP 2 (g1 := (4, [some (.ref 53), some (sI 0), none], [sJ 2, sJ 0, sJ 0], h)) rfl ?_
    refine s_call (k := 127) (args := [sJ 0, sJ 0, sJ 2]) (st := []) (v := some (sI 1)) (h1 := h) rfl ⟨rfl, rfl⟩ rfl rfl rfl rfl rfl rfl vI ?_
    refine s_ifc (q := .ne) (a := 1) rfl ⟨_, rfl⟩ rfl (by unfold sR aMi aMa; omega) (fun hc1 => ?_) (fun hc1 => ?_)
    · have hc1 : (1 : Int) ≠ 0 := hc1
      refine sP 1 (g1 := (9, [some (.ref 53), some (sI 0), none], [.ref 53], h)) rfl ?_
      refine s_get (a := 53) (j := 4) hh rfl ⟨_, rfl⟩ rfl rfl rfl (v := .ref 58) (hR_ok hh (by decide +kernel)) ?_
      refine sP 1 (g1 := (11, [some (.ref 53), some (sI 0), none], [sI 0, .ref 58], h)) rfl ?_
      refine s_iald (a := 58) (n := 201) (j := 0) hh rfl rfl rfl (by omega) (by omega) (by decide) (v := sI ((n : Int))) (by have q := hI_ok hh nw_p; rw [hn] at q; exact q) ?_
      refine s_ifc (q := .ne) (a := (n : Int)) rfl ⟨_, rfl⟩ rfl (by unfold sR aMi aMa; omega) (fun hc2 => ?_) (fun hc2 => ?_)
      · have hc2 : (((n : Int)) : Int) ≠ 0 := hc2
        refine sP 1 (g1 := (16, [some (.ref 53), some (sI 0), none], [sI 0], h)) rfl ?_
        refine s_ifc (q := .ne) (a := 0) rfl ⟨_, rfl⟩ rfl (by unfold sR aMi aMa; omega) (fun hc3 => ?_) (fun hc3 => ?_)
        · have hc3 : (0 : Int) ≠ 0 := hc3
          omega
        · have hc3 : ¬ ((0 : Int) ≠ 0) := hc3
          refine sP 2 (g1 := (19, [some (.ref 53), some (sI 0), none], [.ref 53, .ref 53], h)) rfl ?_
          refine s_get (a := 53) (j := 4) hh rfl ⟨_, rfl⟩ rfl rfl rfl (v := .ref 58) (hR_ok hh (by decide +kernel)) ?_
          refine sP 1 (g1 := (21, [some (.ref 53), some (sI 0), none], [sI 43, .ref 58, .ref 53], h)) rfl ?_
          refine s_iald (a := 58) (n := 201) (j := 43) hh rfl rfl rfl (by omega) (by omega) (by decide) (v := sI ((s : Int))) (by have q := hI_ok hh nw_u; rw [hu] at q; exact q) ?_
          refine s_call (k := 185) (args := [.ref 53, sI ((s : Int))]) (st := []) (v := some (sI (((oC (agM h n s) n n 0 : Nat) : Int)))) (h1 := g1) rfl ⟨rfl, rfl⟩ rfl rfl rfl rfl (sRcv hh (a := 53) rfl rfl) rfl a1 ?_
          exact s_reti rfl rfl (Or.inl rfl) rfl rfl
      · have hc2 : ¬ ((((n : Int)) : Int) ≠ 0) := hc2
        omega
    · have hc1 : ¬ ((1 : Int) ≠ 0) := hc1
      omega
  · obtain ⟨l, el⟩ : ∃ l, 2 * N = l + 1 := ⟨2 * N - 1, by omega⟩
    have hQ := fMsQ (sc := sc) (d := d) (N := N) (h := h) (ag := fun x => ((oC (agM h n x) n n 0 : Nat) : Int)) hn n6 hN ra ha l (by omega)
    obtain ⟨g1, eg1⟩ : ∃ gz, gz = hset h 66 0 (sI (s : Int)) := ⟨_, rfl⟩
    have sg1 : ∀ xa xm, aSlot g1 xa xm = if xa = 66 ∧ xm = 0 then some (sI (s : Int)) else aSlot h xa xm := fun xa xm => by rw [eg1]; exact hset_slot hh (show sTg 66 = some (50, 5) from rfl) (by omega) xa xm
    have hg1 : aHp g1 := by rw [eg1]; exact hset_ii hh (mi_ui (show 0 < 5 by omega)) (by omega) (by omega) (by unfold sR aMi aMa; omega)
    obtain ⟨g2, ev, i1, i2⟩ := fBegins (sc := sc) (d := d + 5) (h := g1) (e := 0) hg1 (by omega)
    have f2 : ∀ p m, ¬ (p = 68 ∧ m = 0) → ¬ (p = 67 ∧ m = 0) → ¬ (p = 66 ∧ m = 0) → aSlot g2 p m = aSlot h p m := fun p m w1 w2 w3 => by rw [i2, if_neg w1, if_neg w2, sg1, if_neg w3]
    have u2 : hI g2 66 0 = (s : Int) := hI_si (by rw [i2, if_neg (by omega), if_neg (by omega), sg1, if_pos ⟨rfl, rfl⟩]) (by unfold sR aMi aMa; omega)
    obtain ⟨g3, j1, j2, j3, j4⟩ := fMsI (sc := sc) (d := d) hn n6 hN (tnV_rg ra l) hQ (e := 0) (s := s) (by omega) s64 (n + 1) 0 (-9) g2 (by omega) (by omega) i1 (fun m => f2 58 m (by omega) (by omega) (by omega)) u2 (hI_si (v := ((0 : Nat) : Int) - 1) (by rw [i2, if_neg (by omega), if_pos ⟨rfl, rfl⟩]; rfl) (by unfold sR aMi aMa; omega)) (hI_si (by rw [i2, if_pos ⟨rfl, rfl⟩]) (by unfold sR aMi aMa; omega))
    rw [show (1 - ((0 : Nat) : Int) % 2) = 1 - ((l + 1 : Nat) : Int) % 2 by omega, tnG_V n6 s64, ← el] at j3
    have ry := tnV_rg (n := n) ra (2 * N) s
    obtain ⟨y, ey⟩ : ∃ y, tnV (fun x => ((oC (agM h n x) n n 0 : Nat) : Int)) n (2 * N) s = y := ⟨_, rfl⟩
    rw [ey] at j3 ry ⊢
    refine ⟨g3, nEv_of (t := mMe203) rfl ?_, j1, fun p m w1 w2 w3 w4 => by rw [j2 p m w1 (by omega) (by omega) (by omega), f2 p m (by omega) (by omega) (by omega)]⟩
    show nRn sc (d + 6) (mMT mMe203) (mMC mMe203) (0, [some (.ref 53), some (sI (N : Int)), none], [], h) _
    refine sP 1 (g1 := (1, [some (.ref 53), some (sI ((N : Int))), none], [sI ((N : Int))], h)) rfl ?_
    refine s_i2l (a := (N : Int)) rfl rfl (by unfold sR aMi aMa; omega) ?_
    refine sP 2 (g1 := (4, [some (.ref 53), some (sI ((N : Int))), none], [sJ 2, sJ 0, sJ ((N : Int))], h)) rfl ?_
    refine s_call (k := 127) (args := [sJ ((N : Int)), sJ 0, sJ 2]) (st := []) (v := some (sI 1)) (h1 := h) rfl ⟨rfl, rfl⟩ rfl rfl rfl rfl rfl rfl vI ?_
    refine s_ifc (q := .ne) (a := 1) rfl ⟨_, rfl⟩ rfl (by unfold sR aMi aMa; omega) (fun hc1 => ?_) (fun hc1 => ?_)
    · have hc1 : (1 : Int) ≠ 0 := hc1
      refine sP 1 (g1 := (9, [some (.ref 53), some (sI ((N : Int))), none], [.ref 53], h)) rfl ?_
      refine s_get (a := 53) (j := 4) hh rfl ⟨_, rfl⟩ rfl rfl rfl (v := .ref 58) (hR_ok hh (by decide +kernel)) ?_
      refine sP 1 (g1 := (11, [some (.ref 53), some (sI ((N : Int))), none], [sI 0, .ref 58], h)) rfl ?_
      refine s_iald (a := 58) (n := 201) (j := 0) hh rfl rfl rfl (by omega) (by omega) (by decide) (v := sI ((n : Int))) (by have q := hI_ok hh nw_p; rw [hn] at q; exact q) ?_
      refine s_ifc (q := .ne) (a := (n : Int)) rfl ⟨_, rfl⟩ rfl (by unfold sR aMi aMa; omega) (fun hc2 => ?_) (fun hc2 => ?_)
      · have hc2 : (((n : Int)) : Int) ≠ 0 := hc2
        refine sP 1 (g1 := (16, [some (.ref 53), some (sI ((N : Int))), none], [sI ((N : Int))], h)) rfl ?_
        refine s_ifc (q := .ne) (a := (N : Int)) rfl ⟨_, rfl⟩ rfl (by unfold sR aMi aMa; omega) (fun hc3 => ?_) (fun hc3 => ?_)
        · have hc3 : (((N : Int)) : Int) ≠ 0 := hc3
          refine sP 1 (g1 := (25, [some (.ref 53), some (sI ((N : Int))), none], [.ref 53], h)) rfl ?_
          refine s_get (a := 53) (j := 18) hh rfl ⟨_, rfl⟩ rfl rfl rfl (v := .ref 66) (hR_ok hh (by decide +kernel)) ?_
          refine sP 2 (g1 := (28, [some (.ref 53), some (sI ((N : Int))), none], [.ref 53, sI 0, .ref 66], h)) rfl ?_
          refine s_get (a := 53) (j := 4) hh rfl ⟨_, rfl⟩ rfl rfl rfl (v := .ref 58) (hR_ok hh (by decide +kernel)) ?_
          refine sP 1 (g1 := (30, [some (.ref 53), some (sI ((N : Int))), none], [sI 43, .ref 58, sI 0, .ref 66], h)) rfl ?_
          refine s_iald (a := 58) (n := 201) (j := 43) hh rfl rfl rfl (by omega) (by omega) (by decide) (v := sI ((s : Int))) (by have q := hI_ok hh nw_u; rw [hu] at q; exact q) ?_
          refine s_iast (a := 66) (n := 5) (j := 0) hh rfl rfl (show sTg 66 = some (50, 5) from rfl) (by omega) (by omega) (by decide) ?_
          rw [show (0 : Int).toNat = 0 by omega]
          rw [← eg1]
          refine sP 2 (g1 := (34, [some (.ref 53), some (sI ((N : Int))), none], [sI 0, .ref 53], g1)) rfl ?_
          refine s_call (k := 204) (args := [.ref 53, sI 0]) (st := []) (v := none) (h1 := g2) rfl ⟨rfl, rfl⟩ rfl rfl rfl rfl (sRcv hg1 (a := 53) rfl rfl) rfl ev ?_
          refine sP 2 (g1 := (37, [some (.ref 53), some (sI ((N : Int))), some (sI 0)], [], g2)) rfl ?_
          refine j4 _ ?_
          show nRn sc (d + 6) (mMT mMe203) (mMC mMe203) (56, [some (.ref 53), some (sI (N : Int)), some (sI 0)], [], g3) _
          refine s_inc (a := 0) (n := (-1)) (k := 2) rfl rfl rfl ?_
          refine sP 1 (g1 := (58, [some (.ref 53), some (sI ((N : Int))), some (sI (-1))], [sI (-1)], g3)) rfl ?_
          refine s_ifc (q := .lt) (a := -1) rfl ⟨_, rfl⟩ rfl (by unfold sR aMi aMa; omega) (fun hc61 => ?_) (fun hc61 => ?_)
          · have hc61 : ((-1) : Int) < 0 := hc61
            refine sP 1 (g1 := (38, [some (.ref 53), some (sI ((N : Int))), some (sI (-1))], [sI (-1)], g3)) rfl ?_
            refine s_ifc (q := .lt) (a := -1) rfl ⟨_, rfl⟩ rfl (by unfold sR aMi aMa; omega) (fun hc62 => ?_) (fun hc62 => ?_)
            · have hc62 : ((-1) : Int) < 0 := hc62
              refine sP 1 (g1 := (98, [some (.ref 53), some (sI ((N : Int))), some (sI (-1))], [.ref 53], g3)) rfl ?_
              refine s_get (a := 53) (j := 20) j1 rfl ⟨_, rfl⟩ rfl rfl rfl (v := .ref 68) (hR_ok j1 (by decide +kernel)) ?_
              refine sP 1 (g1 := (100, [some (.ref 53), some (sI ((N : Int))), some (sI (-1))], [sI 0, .ref 68], g3)) rfl ?_
              refine s_iald (a := 68) (n := 5) (j := 0) j1 rfl rfl rfl (by omega) (by omega) (by decide) (v := sI y) (by rw [show (0 : Int).toNat = 0 by omega]; have q := hI_ok j1 (mi_b (j := 0) (by omega)); rw [j3] at q; exact q) ?_
              exact s_reti rfl rfl (Or.inl rfl) rfl rfl
            · have hc62 : ¬ (((-1) : Int) < 0) := hc62
              omega
          · have hc61 : ¬ (((-1) : Int) < 0) := hc61
            omega
        · have hc3 : ¬ ((((N : Int)) : Int) ≠ 0) := hc3
          omega
      · have hc2 : ¬ ((((n : Int)) : Int) ≠ 0) := hc2
        omega
    · have hc1 : ¬ ((1 : Int) ≠ 0) := hc1
      omega
theorem fMissXb {x : Int} (hh : aHp h) (rx : sR x) (hc : ¬ (0 ≤ x ∧ x ≤ 2)) : nEv sc (d + 1) 101 [.ref 0, sI x] h (some (sI (-1)), h) := by
  unfold sR aMi aMa at rx
  refine nEv_of (t := mMe101) rfl ?_
  show nRn sc (d) (mMT mMe101) (mMC mMe101) (0, [some (.ref 0), some (sI x)], [], h) _
  refine sP 1 (g1 := (1, [some (.ref 0), some (sI x)], [sI x], h)) rfl ?_
  refine s_ifc (q := .lt) (a := x) rfl ⟨_, rfl⟩ rfl (by unfold sR aMi aMa; omega) (fun hc1 => ?_) (fun hc1 => ?_)
  · have hc1 : (x : Int) < 0 := hc1
    refine sP 1 (g1 := (6, [some (.ref 0), some (sI x)], [sI ((-1))], h)) rfl ?_
    exact s_reti rfl rfl (Or.inl rfl) rfl rfl
  · have hc1 : ¬ ((x : Int) < 0) := hc1
    refine sP 2 (g1 := (4, [some (.ref 0), some (sI x)], [sI 2, sI x], h)) rfl ?_
    refine s_icmp (q := .le) (a := x) (b := 2) rfl ⟨_, rfl⟩ rfl (by unfold sR aMi aMa; omega) (by unfold sR aMi aMa; omega) (fun hc2 => ?_) (fun hc2 => ?_)
    · have hc2 : (x : Int) ≤ 2 := hc2
      omega
    · have hc2 : ¬ ((x : Int) ≤ 2) := hc2
      refine sP 1 (g1 := (6, [some (.ref 0), some (sI x)], [sI ((-1))], h)) rfl ?_
      exact s_reti rfl rfl (Or.inl rfl) rfl rfl
theorem fMissMb {x : Int} (hh : aHp h) (rx : sR x) (hc : ¬ (0 ≤ x ∧ x ≤ 2)) : nEv sc (d + 2) 203 [.ref 53, sI x] h (some (sI (-1)), h) := by
  unfold sR aMi aMa at rx
  have vI := fIn (sc := sc) (d := d) (h := h) (a := x) (b := 0) (e := 2) (by omega) (by omega) (by omega) (by omega) (by omega) (by omega)
  rw [if_neg (by omega)] at vI
  refine nEv_of (t := mMe203) rfl ?_
  show nRn sc (d + 1) (mMT mMe203) (mMC mMe203) (0, [some (.ref 53), some (sI x), none], [], h) _
  refine sP 1 (g1 := (1, [some (.ref 53), some (sI x), none], [sI x], h)) rfl ?_
  refine s_i2l (a := x) rfl rfl (by unfold sR aMi aMa; omega) ?_
  refine sP 2 (g1 := (4, [some (.ref 53), some (sI x), none], [sJ 2, sJ 0, sJ x], h)) rfl ?_
  refine s_call (k := 127) (args := [sJ x, sJ 0, sJ 2]) (st := []) (v := some (sI 0)) (h1 := h) rfl ⟨rfl, rfl⟩ rfl rfl rfl rfl rfl rfl vI ?_
  refine s_ifc (q := .ne) (a := 0) rfl ⟨_, rfl⟩ rfl (by unfold sR aMi aMa; omega) (fun hc1 => ?_) (fun hc1 => ?_)
  · have hc1 : (0 : Int) ≠ 0 := hc1
    omega
  · have hc1 : ¬ ((0 : Int) ≠ 0) := hc1
    refine sP 1 (g1 := (7, [some (.ref 53), some (sI x), none], [sI ((-1))], h)) rfl ?_
    exact s_reti rfl rfl (Or.inl rfl) rfl rfl
theorem fMissXz {x : Int} (hh : aHp h) (rx : sR x) (hc : 0 ≤ x ∧ x ≤ 2) (hz : hI h 3 3 = 0) : nEv sc (d + 1) 101 [.ref 0, sI x] h (some (sI (-4)), h) := by
  unfold sR aMi aMa at rx
  refine nEv_of (t := mMe101) rfl ?_
  show nRn sc (d) (mMT mMe101) (mMC mMe101) (0, [some (.ref 0), some (sI x)], [], h) _
  refine sP 1 (g1 := (1, [some (.ref 0), some (sI x)], [sI x], h)) rfl ?_
  refine s_ifc (q := .lt) (a := x) rfl ⟨_, rfl⟩ rfl (by unfold sR aMi aMa; omega) (fun hc1 => ?_) (fun hc1 => ?_)
  · have hc1 : (x : Int) < 0 := hc1
    omega
  · have hc1 : ¬ ((x : Int) < 0) := hc1
    refine sP 2 (g1 := (4, [some (.ref 0), some (sI x)], [sI 2, sI x], h)) rfl ?_
    refine s_icmp (q := .le) (a := x) (b := 2) rfl ⟨_, rfl⟩ rfl (by unfold sR aMi aMa; omega) (by unfold sR aMi aMa; omega) (fun hc2 => ?_) (fun hc2 => ?_)
    · have hc2 : (x : Int) ≤ 2 := hc2
      refine sP 1 (g1 := (8, [some (.ref 0), some (sI x)], [.ref 0], h)) rfl ?_
      refine s_get (a := 0) (j := 2) hh rfl ⟨_, rfl⟩ rfl rfl rfl (v := .ref 3) (hR_ok hh (by decide +kernel)) ?_
      refine s_get (a := 3) (j := 3) hh rfl ⟨_, rfl⟩ rfl rfl rfl (v := sI (hI h 3 3)) (hI_ok hh xw_p) ?_
      refine s_ifc (q := .ne) (a := hI h 3 3) rfl ⟨_, rfl⟩ rfl (by unfold sR aMi aMa; omega) (fun hc3 => ?_) (fun hc3 => ?_)
      · have hc3 : ((hI h 3 3) : Int) ≠ 0 := hc3
        omega
      · have hc3 : ¬ (((hI h 3 3) : Int) ≠ 0) := hc3
        refine sP 1 (g1 := (12, [some (.ref 0), some (sI x)], [sI ((-4))], h)) rfl ?_
        exact s_reti rfl rfl (Or.inl rfl) rfl rfl
    · have hc2 : ¬ ((x : Int) ≤ 2) := hc2
      omega
theorem fMissMz {x : Int} (hh : aHp h) (rx : sR x) (hc : 0 ≤ x ∧ x ≤ 2) (hz : hI h 58 0 = 0) : nEv sc (d + 2) 203 [.ref 53, sI x] h (some (sI (-4)), h) := by
  unfold sR aMi aMa at rx
  have vI := fIn (sc := sc) (d := d) (h := h) (a := x) (b := 0) (e := 2) (by omega) (by omega) (by omega) (by omega) (by omega) (by omega)
  rw [if_pos (by omega)] at vI
  refine nEv_of (t := mMe203) rfl ?_
  show nRn sc (d + 1) (mMT mMe203) (mMC mMe203) (0, [some (.ref 53), some (sI x), none], [], h) _
  refine sP 1 (g1 := (1, [some (.ref 53), some (sI x), none], [sI x], h)) rfl ?_
  refine s_i2l (a := x) rfl rfl (by unfold sR aMi aMa; omega) ?_
  refine sP 2 (g1 := (4, [some (.ref 53), some (sI x), none], [sJ 2, sJ 0, sJ x], h)) rfl ?_
  refine s_call (k := 127) (args := [sJ x, sJ 0, sJ 2]) (st := []) (v := some (sI 1)) (h1 := h) rfl ⟨rfl, rfl⟩ rfl rfl rfl rfl rfl rfl vI ?_
  refine s_ifc (q := .ne) (a := 1) rfl ⟨_, rfl⟩ rfl (by unfold sR aMi aMa; omega) (fun hc1 => ?_) (fun hc1 => ?_)
  · have hc1 : (1 : Int) ≠ 0 := hc1
    refine sP 1 (g1 := (9, [some (.ref 53), some (sI x), none], [.ref 53], h)) rfl ?_
    refine s_get (a := 53) (j := 4) hh rfl ⟨_, rfl⟩ rfl rfl rfl (v := .ref 58) (hR_ok hh (by decide +kernel)) ?_
    refine sP 1 (g1 := (11, [some (.ref 53), some (sI x), none], [sI 0, .ref 58], h)) rfl ?_
    refine s_iald (a := 58) (n := 201) (j := 0) hh rfl rfl rfl (by omega) (by omega) (by decide) (v := sI (hI h 58 0)) (hI_ok hh nw_p) ?_
    refine s_ifc (q := .ne) (a := hI h 58 0) rfl ⟨_, rfl⟩ rfl (by unfold sR aMi aMa; omega) (fun hc2 => ?_) (fun hc2 => ?_)
    · have hc2 : ((hI h 58 0) : Int) ≠ 0 := hc2
      omega
    · have hc2 : ¬ (((hI h 58 0) : Int) ≠ 0) := hc2
      refine sP 1 (g1 := (14, [some (.ref 53), some (sI x), none], [sI ((-4))], h)) rfl ?_
      exact s_reti rfl rfl (Or.inl rfl) rfl rfl
  · have hc1 : ¬ ((1 : Int) ≠ 0) := hc1
    omega
theorem fMissX {n N s : Nat} (hh : aHp h) (hn : hI h 3 3 = n) (n0 : n ≠ 0) (hN : N ≤ 2) (hu : hI h 3 4 = (s : Int)) : nEv sc (d + 12) 101 [.ref 0, sI (N : Int)] h (some (sI (tnV (fun x => ((oC (agX h n x) n n 0 : Nat) : Int)) n (2 * N) s)), h) := by
  have gp := hI_rg hh xw_p
  have gu := hI_rg hh xw_u
  have ev : nEv sc (d + 11) 102 [.ref 3, sI (s : Int), sI ((2 * N : Nat) : Int)] h (some (sI (tnV (fun x => ((oC (agX h n x) n n 0 : Nat) : Int)) n (2 * N) s)), h) := by
    have q := fAfter (sc := sc) (d := d + 4 - 2 * N) hh hn (2 * N) s (by omega) (by omega)
    rw [show d + 4 - 2 * N + 7 + 2 * N = d + 11 by omega] at q
    exact q
  refine nEv_of (t := mMe101) rfl ?_
  show nRn sc (d + 11) (mMT mMe101) (mMC mMe101) (0, [some (.ref 0), some (sI ((N : Int)))], [], h) _
  refine sP 1 (g1 := (1, [some (.ref 0), some (sI ((N : Int)))], [sI ((N : Int))], h)) rfl ?_
  refine s_ifc (q := .lt) (a := (N : Int)) rfl ⟨_, rfl⟩ rfl (by unfold sR aMi aMa; omega) (fun hc1 => ?_) (fun hc1 => ?_)
  · have hc1 : (((N : Int)) : Int) < 0 := hc1
    omega
  · have hc1 : ¬ ((((N : Int)) : Int) < 0) := hc1
    refine sP 2 (g1 := (4, [some (.ref 0), some (sI ((N : Int)))], [sI 2, sI ((N : Int))], h)) rfl ?_
    refine s_icmp (q := .le) (a := (N : Int)) (b := 2) rfl ⟨_, rfl⟩ rfl (by unfold sR aMi aMa; omega) (by unfold sR aMi aMa; omega) (fun hc2 => ?_) (fun hc2 => ?_)
    · have hc2 : (((N : Int)) : Int) ≤ 2 := hc2
      refine sP 1 (g1 := (8, [some (.ref 0), some (sI ((N : Int)))], [.ref 0], h)) rfl ?_
      refine s_get (a := 0) (j := 2) hh rfl ⟨_, rfl⟩ rfl rfl rfl (v := .ref 3) (hR_ok hh (by decide +kernel)) ?_
      refine s_get (a := 3) (j := 3) hh rfl ⟨_, rfl⟩ rfl rfl rfl (v := sI ((n : Int))) (by have q := hI_ok hh xw_p; rw [hn] at q; exact q) ?_
      refine s_ifc (q := .ne) (a := (n : Int)) rfl ⟨_, rfl⟩ rfl (by unfold sR aMi aMa; omega) (fun hc3 => ?_) (fun hc3 => ?_)
      · have hc3 : (((n : Int)) : Int) ≠ 0 := hc3
        refine sP 1 (g1 := (14, [some (.ref 0), some (sI ((N : Int)))], [.ref 0], h)) rfl ?_
        refine s_get (a := 0) (j := 2) hh rfl ⟨_, rfl⟩ rfl rfl rfl (v := .ref 3) (hR_ok hh (by decide +kernel)) ?_
        refine sP 1 (g1 := (16, [some (.ref 0), some (sI ((N : Int)))], [.ref 0, .ref 3], h)) rfl ?_
        refine s_get (a := 0) (j := 2) hh rfl ⟨_, rfl⟩ rfl rfl rfl (v := .ref 3) (hR_ok hh (by decide +kernel)) ?_
        refine s_get (a := 3) (j := 4) hh rfl ⟨_, rfl⟩ rfl rfl rfl (v := sI ((s : Int))) (by have q := hI_ok hh xw_u; rw [hu] at q; exact q) ?_
        refine sP 2 (g1 := (20, [some (.ref 0), some (sI ((N : Int)))], [sI ((N : Int)), sI 2, sI ((s : Int)), .ref 3], h)) rfl ?_
        refine s_mul (a := 2) (b := (N : Int)) rfl rfl ?_
        rw [show (2 * (N : Int)) = ((2 * N : Nat) : Int) by omega]
        refine s_call (k := 102) (args := [.ref 3, sI ((s : Int)), sI (((2 * N : Nat) : Int))]) (st := []) (v := some (sI (tnV (fun x => ((oC (agX h n x) n n 0 : Nat) : Int)) n (2 * N) s))) (h1 := h) rfl ⟨rfl, rfl⟩ rfl rfl rfl rfl (sRcv hh (a := 3) rfl rfl) rfl ev ?_
        exact s_reti rfl rfl (Or.inl rfl) rfl rfl
      · have hc3 : ¬ ((((n : Int)) : Int) ≠ 0) := hc3
        omega
    · have hc2 : ¬ ((((N : Int)) : Int) ≤ 2) := hc2
      omega
end MISS
theorem wMissn {sc : List Int32} {h : mH} (x : Int32) (hp : wP h) : ∃ z1 h1 z2 h2, nEv sc 100 101 (.ref 0 :: [x].map Value.int) h (some (.int z1), h1) ∧ aHp h1 ∧ nEv sc 100 203 (.ref 53 :: [x].map Value.int) h1 (some (.int z2), h2) ∧ wP h2 ∧ z2 = z1 := by
  have hh := wP_a h hp
  have rx : sR x.toInt := aI_rg x
  have e3 : hI h 3 3 = hI h 58 0 := hp.2.1.1
  have e4 : hI h 3 4 = hI h 58 43 := hp.2.1.2.1
  have gp := hI_rg hh xw_p
  have gu := hI_rg hh xw_u
  obtain ⟨n, en⟩ := iN gp.1
  obtain ⟨s, es⟩ := iN gu.1
  by_cases c1 : 0 ≤ x.toInt ∧ x.toInt ≤ 2
  · by_cases c0 : n = 0
    · exact pair1 (fMissXz (d := 99) hh rx c1 (by omega)) hh (fMissMz (d := 98) hh rx c1 (by omega)) hp rfl
    · obtain ⟨N, eN⟩ := iN c1.1
      obtain ⟨g2, b1, b2, b3⟩ := fMissM (sc := sc) (d := 93) (n := n) (N := N) (s := s) hh (by omega) c0 (by omega) (by omega)
      refine pair1 (v2 := tnV (fun x => ((oC (agM h n x) n n 0 : Nat) : Int)) n (2 * N) s) (by rw [eN]; exact fMissX (d := 88) hh en c0 (by omega) es) hh (by rw [eN]; exact b1) (wP_sl hp (tP_sl hp.1 b2 (fun e m w => b3 e m (by omega) (by omega) (by omega) (by omega))) (fun p m w => b3 p m (by omega) (by omega) (by omega) (by omega))) ?_
      rw [show (fun x => ((oC (agM h n x) n n 0 : Nat) : Int)) = (fun x => ((oC (agX h n x) n n 0 : Nat) : Int)) from funext (fun x => by
        rw [oC_cg (n := n) (fun a b ha hb => nR_aX (s := x) hp.2.1 en ha hb) n 0 (by omega)])]
  · exact pair1 (fMissXb (d := 99) hh rx c1) hh (fMissMb (d := 98) hh rx c1) hp rfl

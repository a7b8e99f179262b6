/-! whole arrays copied -/
noncomputable def hcpy (h : mH) (a0 a1 : Nat) : mH := match h[a0]? with
  | some q0 => match h[a1]? with
    | some q1 => h.set a1 (q1.1, q0.2)
    | none => h
  | none => h
noncomputable def aTlB (a0 a1 : Nat) : Bool := match aT[a0]? with
  | some t0 => match aT[a1]? with
    | some t1 => aTl t0 t1 && decide (t0.2.1 = t1.2.1)
    | none => false
  | none => false
section HCP
variable {h : mH} {a0 a1 : Nat}
theorem hcpy_slot {k0 k1 n0 n1 : Nat} (hh : aHp h) (ht0 : sTg a0 = some (k0, n0)) (ht1 : sTg a1 = some (k1, n1)) (b m : Nat) : aSlot (hcpy h a0 a1) b m = if b = a1 then aSlot h a0 m else aSlot h b m := by
  obtain ⟨q0, x1, x2, x3⟩ := sTg_ok hh ht0
  obtain ⟨q1, y1, y2, y3⟩ := sTg_ok hh ht1
  unfold hcpy
  rw [x1]
  dsimp only
  rw [y1]
  dsimp only
  unfold aSlot
  rw [List.getElem?_set]
  by_cases hb : b = a1
  · subst hb
    rw [if_pos rfl, if_pos (List.getElem?_eq_some_iff.mp y1).1, if_pos rfl, x1]
  · rw [if_neg (fun e => hb e.symm), if_neg hb]
theorem aTlB_ok (hh : aHp h) (hT : aTlB a0 a1 = true) : ∃ q0 q1 t1, h[a0]? = some q0 ∧ h[a1]? = some q1 ∧ aT[a1]? = some t1 ∧ q1.1 = t1.1 ∧ q0.2.length = t1.2.1 ∧ q1.2.length = t1.2.1 ∧ ∀ (j : Nat) (w : Value), q0.2[j]? = some w → mIsI w = true ∧ ∀ g ∈ t1.2.2, aIsT g w := by
  unfold aTlB at hT
  split at hT
  · rename_i t0 ht0
    split at hT
    · rename_i t1 ht1
      rw [Bool.and_eq_true, decide_eq_true_eq] at hT
      obtain ⟨q0, x1, x2, x3, x4⟩ := aHp_at hh ht0
      obtain ⟨q1, y1, y2, y3, y4⟩ := aHp_at hh ht1
      exact ⟨q0, q1, t1, x1, y1, ht1, y2, by rw [x3]; exact hT.2, y3, aTl_ok hT.1 x3 x4⟩
    · cases hT
  · cases hT
theorem hcpy_hp (hh : aHp h) (hT : aTlB a0 a1 = true) : aHp (hcpy h a0 a1) := by
  obtain ⟨q0, q1, t1, x1, x2, x3, x4, x5, x6, x7⟩ := aTlB_ok hh hT
  unfold hcpy
  rw [x1]
  dsimp only
  rw [x2]
  dsimp only
  refine ⟨by rw [List.length_set]; exact hh.1, fun b t p ht hp => ?_⟩
  rw [List.getElem?_set] at hp
  split at hp
  · rename_i hab
    subst hab
    split at hp
    · cases hp
      rw [x3] at ht
      cases ht
      exact ⟨x4, x5, fun g hg m w m1 m2 hw => (x7 m w hw).2 g hg⟩
    · cases hp
  · exact hh.2 b t p ht hp
theorem mCpy_all {us vs : List Value} (hl : us.length = vs.length) : mCpy us vs 0 0 us.length = us := by
  apply List.ext_getElem?
  intro k
  unfold mCpy
  rw [List.getElem?_map]
  by_cases hk : k < vs.length
  · rw [List.getElem?_range hk]
    show some (va_cpy (vp_V us) (vp_V vs) 0 0 us.length k) = us[k]?
    unfold va_cpy vp_V
    rw [if_pos (by omega), List.getD_eq_getElem?_getD, show 0 + (k - 0) = k by omega, List.getElem?_eq_getElem (by omega)]
    rfl
  · rw [List.getElem?_eq_none (by simpa using Nat.le_of_not_lt hk), List.getElem?_eq_none (by omega)]
    rfl
end HCP
theorem s_acp {sc : List Int32} {d : Nat} {rt : Option FieldType} {cs : List mE} {i : Nat} {L : mL} {st : List Value} {h : mH} {r : mR} {en : mE} {a0 a1 n : Nat} (hh : aHp h) (he : cs[i]? = some en) (ho : ∃ z, en.2.1 = .invokestatic z) (h2 : mTgt en 2 = 2) (ht0 : sTg a0 = some (50, n)) (ht1 : sTg a1 = some (50, n)) (hn : n ≤ 100000) (hT : aTlB a0 a1 = true) (h8 : Nat.ble ((st.map (fun v => v.category)).sum) 8 = true) (hr : nRn sc d rt cs (i + 1, L, st, hcpy h a0 a1) r) : nRn sc d rt cs (i, L, sI (n : Int) :: sI 0 :: .ref a1 :: sI 0 :: .ref a0 :: st, h) r := by
  obtain ⟨z, ho⟩ := ho
  obtain ⟨q0, q1, t1, x1, x2, x3, x4, x5, x6, x7⟩ := aTlB_ok hh hT
  obtain ⟨p0, y1, y2, y3⟩ := sTg_ok hh ht0
  obtain ⟨p1, w1, w2, w3⟩ := sTg_ok hh ht1
  rw [x1] at y1
  cases y1
  rw [x2] at w1
  cases w1
  have hN : (Int32.ofInt (n : Int)).toNatClampNeg = n := by rw [sR_n (by unfold sR aMi aMa; omega)]; omega
  have h0 : (Int32.ofInt 0).toNatClampNeg = 0 := rfl
  have hlt : ¬ Int32.ofInt (n : Int) < 0 := by
    rw [Int32.lt_iff_toInt_lt, sR_i (by unfold sR aMi aMa; omega)]
    have : (0 : Int32).toInt = 0 := rfl
    omega
  have h00 : ¬ Int32.ofInt 0 < 0 := by decide
  have hall : q0.2.all mIsI = true := by
    rw [List.all_eq_true]
    intro w hw
    obtain ⟨j, hj⟩ := List.getElem?_of_mem hw
    exact (x7 j w hj).1
  have hcp : hcpy h a0 a1 = h.set a1 (q1.1, mCpy q0.2 q1.2 0 0 n) := by
    unfold hcpy
    rw [x1]
    dsimp only
    rw [x2]
    dsimp only
    rw [← y3, mCpy_all (by omega)]
  rw [hcp] at hr
  refine sStep he (by unfold nCl; rw [ho]; dsimp only; rw [if_neg (by omega)]; intro q; cases q) (fun call => mStep_G2 ?_) hr
  unfold mG2
  rw [ho]
  dsimp only
  rw [x1]
  dsimp only
  rw [x2]
  dsimp only
  rw [hN, h0, if_pos ⟨h2, Nat.le_of_ble_eq_true h8, y2, w2, h00, h00, hlt, by omega, by omega, hall⟩]
/-! embassies: one becomes another -/
noncomputable def eAd : List Nat := [3, 9, 41, 45, 49]
section EMB
variable {sc : List Int32} {d : Nat} {h : mH} {e o : Nat}
theorem ea_t (he : e ∈ eAd) : sTg e = some (1, 7) := (show ∀ e ∈ eAd, sTg e = some (1, 7) by decide +kernel) e he
theorem ea_1 (he : e ∈ eAd) : sTg (e + 1) = some (50, 6) := (show ∀ e ∈ eAd, sTg (e + 1) = some (50, 6) by decide +kernel) e he
theorem ea_2 (he : e ∈ eAd) : sTg (e + 2) = some (50, 36) := (show ∀ e ∈ eAd, sTg (e + 2) = some (50, 36) by decide +kernel) e he
theorem ea_3 (he : e ∈ eAd) : sTg (e + 3) = some (50, 40) := (show ∀ e ∈ eAd, sTg (e + 3) = some (50, 40) by decide +kernel) e he
theorem ea_r1 (he : e ∈ eAd) : zRef e 0 (e + 1) = true := (show ∀ e ∈ eAd, zRef e 0 (e + 1) = true by decide +kernel) e he
theorem ea_r2 (he : e ∈ eAd) : zRef e 1 (e + 2) = true := (show ∀ e ∈ eAd, zRef e 1 (e + 2) = true by decide +kernel) e he
theorem ea_r3 (he : e ∈ eAd) : zRef e 2 (e + 3) = true := (show ∀ e ∈ eAd, zRef e 2 (e + 3) = true by decide +kernel) e he
theorem ea_p (he : e ∈ eAd) : zCell e 3 0 6 = true := (show ∀ e ∈ eAd, zCell e 3 0 6 = true by decide +kernel) e he
theorem ea_u (he : e ∈ eAd) : zCell e 4 0 63 = true := (show ∀ e ∈ eAd, zCell e 4 0 63 = true by decide +kernel) e he
theorem ea_d (he : e ∈ eAd) : zCell e 5 0 40 = true := (show ∀ e ∈ eAd, zCell e 5 0 40 = true by decide +kernel) e he
theorem ea_ip (he : e ∈ eAd) : zIn e 3 0 6 = true := (show ∀ e ∈ eAd, zIn e 3 0 6 = true by decide +kernel) e he
theorem ea_iu (he : e ∈ eAd) : zIn e 4 0 63 = true := (show ∀ e ∈ eAd, zIn e 4 0 63 = true by decide +kernel) e he
theorem ea_id (he : e ∈ eAd) : zIn e 5 0 40 = true := (show ∀ e ∈ eAd, zIn e 5 0 40 = true by decide +kernel) e he
theorem ea_c (he : e ∈ eAd) (ho : o ∈ eAd) : aTlB (o + 1) (e + 1) = true ∧ aTlB (o + 2) (e + 2) = true ∧ aTlB (o + 3) (e + 3) = true := (show ∀ e ∈ eAd, ∀ o ∈ eAd, aTlB (o + 1) (e + 1) = true ∧ aTlB (o + 2) (e + 2) = true ∧ aTlB (o + 3) (e + 3) = true by decide +kernel) e he o ho
theorem ea_n (he : e ∈ eAd) (ho : o ∈ eAd) (hne : e ≠ o) : e + 4 ≤ o ∨ o + 4 ≤ e := (show ∀ e ∈ eAd, ∀ o ∈ eAd, e ≠ o → e + 4 ≤ o ∨ o + 4 ≤ e by decide +kernel) e he o ho hne
/-- a cell that holds a long -/
noncomputable def zLg (a j : Nat) : Bool := match aT[a]? with
  | some t => decide (j < t.2.1) && t.2.2.any (fun g => decide (g.1 ≤ j) && (decide (j ≤ g.2.1) && g.2.2.1 == 1))
  | none => false
theorem zLg_ok {a j : Nat} (hh : aHp h) (hz : zLg a j = true) : ∃ s : Int64, aSlot h a j = some (.long s) := by
  unfold zLg at hz
  split at hz
  · rename_i t ht
    rw [Bool.and_eq_true, decide_eq_true_eq] at hz
    obtain ⟨hj, hz⟩ := hz
    obtain ⟨g, g1, g2⟩ := List.any_eq_true.mp hz
    simp only [Bool.and_eq_true, decide_eq_true_eq, beq_iff_eq] at g2
    obtain ⟨a1, a2, a3⟩ := g2
    obtain ⟨q, q1, q2, q3, q4⟩ := aHp_at hh ht
    have hjq : j < q.2.length := by omega
    have h1 := q4 g g1 j _ a1 a2 (List.getElem?_eq_getElem hjq)
    unfold aIsT at h1
    rw [a3] at h1
    obtain ⟨s, s1, -, -⟩ := h1
    exact ⟨s, by rw [aSlot_of q1, List.getElem?_eq_getElem hjq, s1]⟩
  · cases hz
theorem ea_l (he : e ∈ eAd) : zLg e 6 = true := (show ∀ e ∈ eAd, zLg e 6 = true by decide +kernel) e he
noncomputable def zIL (a j : Nat) : Bool := match aT[a]? with
  | some t => t.2.2.all (fun g => decide (j < g.1) || (decide (g.2.1 < j) || (g.2.2.1 == 1 && (decide (g.2.2.2.1 ≤ -9223372036854775808) && decide (9223372036854775807 ≤ g.2.2.2.2)))))
  | none => true
theorem hset_lg {a j : Nat} {z : Int64} (hh : aHp h) (hz : zIL a j = true) : aHp (hset h a j (.long z)) := by
  refine hset_hp hh (fun t g ht hg k1 k2 => ?_)
  unfold zIL at hz
  rw [ht] at hz
  have h3 := List.all_eq_true.mp hz g hg
  simp only [Bool.or_eq_true, Bool.and_eq_true, decide_eq_true_eq, beq_iff_eq] at h3
  rcases h3 with h3 | h3 | ⟨h3, h4, h5⟩
  · omega
  · omega
  · unfold aIsT
    rw [h3]
    have l1 := Int64.le_toInt z
    have l2 := Int64.toInt_lt z
    exact ⟨z, rfl, by omega, by omega⟩
theorem ea_il (he : e ∈ eAd) : zIL e 6 = true := (show ∀ e ∈ eAd, zIL e 6 = true by decide +kernel) e he
theorem fBecome (hh : aHp h) (he : e ∈ eAd) (ho : o ∈ eAd) (hne : e ≠ o) : ∃ h1, nEv sc (d + 1) 33 [.ref e, .ref o] h (none, h1) ∧ aHp h1 ∧ ∀ b m, aSlot h1 b m = if b = e + 1 then aSlot h (o + 1) m else if b = e + 2 then aSlot h (o + 2) m else if b = e + 3 then aSlot h (o + 3) m else if b = e ∧ 3 ≤ m ∧ m ≤ 6 then aSlot h o m else aSlot h b m := by
  have hn := ea_n he ho hne
  obtain ⟨t1, t2, t3⟩ := ea_c he ho
  have p3 := hI_ok hh (ea_p ho)
  have p4 := hI_ok hh (ea_u ho)
  have p5 := hI_ok hh (ea_d ho)
  have g3 := hI_rg hh (ea_p ho)
  have g4 := hI_rg hh (ea_u ho)
  have g5 := hI_rg hh (ea_d ho)
  obtain ⟨z, p6⟩ := zLg_ok hh (ea_l ho)
  have c1 := hcpy_hp hh t1
  have s1 := hcpy_slot hh (ea_1 ho) (ea_1 he)
  have c2 := hcpy_hp c1 t2
  have s2 := hcpy_slot c1 (ea_2 ho) (ea_2 he)
  have c3 := hcpy_hp c2 t3
  have s3 := hcpy_slot c2 (ea_3 ho) (ea_3 he)
  have sr : ∀ x : Int, sR (hI h o 3) ∧ sR (hI h o 4) ∧ sR (hI h o 5) := fun _ => ⟨hI_sR _ _ _, hI_sR _ _ _, hI_sR _ _ _⟩
  obtain ⟨q3, q4, q5⟩ := sr 0
  have d3 : aHp (hset (hcpy (hcpy (hcpy h (o + 1) (e + 1)) (o + 2) (e + 2)) (o + 3) (e + 3)) e 3 (sI (hI h o 3))) := hset_in c3 (ea_ip he) (by rw [sR_i q3]; omega) (by rw [sR_i q3]; omega)
  have u3 := fun b m => hset_slot (v := sI (hI h o 3)) (j := 3) c3 (ea_t he) (by omega) b m
  have d4 : aHp (hset (hset (hcpy (hcpy (hcpy h (o + 1) (e + 1)) (o + 2) (e + 2)) (o + 3) (e + 3)) e 3 (sI (hI h o 3))) e 4 (sI (hI h o 4))) := hset_in d3 (ea_iu he) (by rw [sR_i q4]; omega) (by rw [sR_i q4]; omega)
  have u4 := fun b m => hset_slot (v := sI (hI h o 4)) (j := 4) d3 (ea_t he) (by omega) b m
  have d5 : aHp (hset (hset (hset (hcpy (hcpy (hcpy h (o + 1) (e + 1)) (o + 2) (e + 2)) (o + 3) (e + 3)) e 3 (sI (hI h o 3))) e 4 (sI (hI h o 4))) e 5 (sI (hI h o 5))) := hset_in d4 (ea_id he) (by rw [sR_i q5]; omega) (by rw [sR_i q5]; omega)
  have u5 := fun b m => hset_slot (v := sI (hI h o 5)) (j := 5) d4 (ea_t he) (by omega) b m
  have d6 : aHp (hset (hset (hset (hset (hcpy (hcpy (hcpy h (o + 1) (e + 1)) (o + 2) (e + 2)) (o + 3) (e + 3)) e 3 (sI (hI h o 3))) e 4 (sI (hI h o 4))) e 5 (sI (hI h o 5))) e 6 (.long z)) := hset_lg d5 (ea_il he)
  have u6 := fun b m => hset_slot (v := .long z) (j := 6) d5 (ea_t he) (by omega) b m
  refine ⟨_, nEv_of (t := mMe33) rfl ?_, d6, fun b m => ?_⟩
  rotate_left
  · by_cases b1 : b = e + 1
    · rw [if_pos b1, u6, if_neg (by omega), u5, if_neg (by omega), u4, if_neg (by omega), u3, if_neg (by omega), s3, if_neg (by omega), s2, if_neg (by omega), s1, if_pos b1]
    rw [if_neg b1]
    by_cases b2 : b = e + 2
    · rw [if_pos b2, u6, if_neg (by omega), u5, if_neg (by omega), u4, if_neg (by omega), u3, if_neg (by omega), s3, if_neg (by omega), s2, if_pos b2, s1, if_neg (by omega)]
    rw [if_neg b2]
    by_cases b3 : b = e + 3
    · rw [if_pos b3, u6, if_neg (by omega), u5, if_neg (by omega), u4, if_neg (by omega), u3, if_neg (by omega), s3, if_pos b3, s2, if_neg (by omega), s1, if_neg (by omega)]
    rw [if_neg b3]
    by_cases b4 : b = e ∧ 3 ≤ m ∧ m ≤ 6
    · rw [if_pos b4]
      rcases (show m = 3 ∨ m = 4 ∨ m = 5 ∨ m = 6 by omega) with m1 | m1 | m1 | m1
      · rw [u6, if_neg (by omega), u5, if_neg (by omega), u4, if_neg (by omega), u3, if_pos ⟨b4.1, m1⟩, m1, p3]
      · rw [u6, if_neg (by omega), u5, if_neg (by omega), u4, if_pos ⟨b4.1, m1⟩, m1, p4]
      · rw [u6, if_neg (by omega), u5, if_pos ⟨b4.1, m1⟩, m1, p5]
      · rw [u6, if_pos ⟨b4.1, m1⟩, m1, p6]
    · rw [if_neg b4, u6, if_neg (by omega), u5, if_neg (by omega), u4, if_neg (by omega), u3, if_neg (by omega), s3, if_neg b3, s2, if_neg b2, s1, if_neg b1]
  show nRn sc d (mMT mMe33) (mMC mMe33) (0, [some (.ref e), some (.ref o)], [], h) _
  refine sP 1 (g1 := (1, [some (.ref e), some (.ref o)], [.ref o], h)) rfl ?_
  refine s_get (a := o) (j := 0) hh rfl ⟨_, rfl⟩ (ea_t ho) rfl rfl (v := .ref (o + 1)) (hR_ok hh (ea_r1 ho)) ?_
  refine sP 2 (g1 := (4, [some (.ref e), some (.ref o)], [.ref e, sI 0, .ref (o + 1)], h)) rfl ?_
  refine s_get (a := e) (j := 0) hh rfl ⟨_, rfl⟩ (ea_t he) rfl rfl (v := .ref (e + 1)) (hR_ok hh (ea_r1 he)) ?_
  refine sP 2 (g1 := (7, [some (.ref e), some (.ref o)], [sI 6, sI 0, .ref (e + 1), sI 0, .ref (o + 1)], h)) rfl ?_
  refine s_acp (a0 := o + 1) (a1 := e + 1) (n := 6) hh rfl ⟨_, rfl⟩ rfl (ea_1 ho) (ea_1 he) (by decide) t1 rfl ?_
  refine sP 1 (g1 := (9, [some (.ref e), some (.ref o)], [.ref o], (hcpy h (o + 1) (e + 1)))) rfl ?_
  refine s_get (a := o) (j := 1) c1 rfl ⟨_, rfl⟩ (ea_t ho) rfl rfl (v := .ref (o + 2)) (hR_ok c1 (ea_r2 ho)) ?_
  refine sP 2 (g1 := (12, [some (.ref e), some (.ref o)], [.ref e, sI 0, .ref (o + 2)], (hcpy h (o + 1) (e + 1)))) rfl ?_
  refine s_get (a := e) (j := 1) c1 rfl ⟨_, rfl⟩ (ea_t he) rfl rfl (v := .ref (e + 2)) (hR_ok c1 (ea_r2 he)) ?_
  refine sP 2 (g1 := (15, [some (.ref e), some (.ref o)], [sI 36, sI 0, .ref (e + 2), sI 0, .ref (o + 2)], (hcpy h (o + 1) (e + 1)))) rfl ?_
  refine s_acp (a0 := o + 2) (a1 := e + 2) (n := 36) c1 rfl ⟨_, rfl⟩ rfl (ea_2 ho) (ea_2 he) (by decide) t2 rfl ?_
  refine sP 1 (g1 := (17, [some (.ref e), some (.ref o)], [.ref o], (hcpy (hcpy h (o + 1) (e + 1)) (o + 2) (e + 2)))) rfl ?_
  refine s_get (a := o) (j := 2) c2 rfl ⟨_, rfl⟩ (ea_t ho) rfl rfl (v := .ref (o + 3)) (hR_ok c2 (ea_r3 ho)) ?_
  refine sP 2 (g1 := (20, [some (.ref e), some (.ref o)], [.ref e, sI 0, .ref (o + 3)], (hcpy (hcpy h (o + 1) (e + 1)) (o + 2) (e + 2)))) rfl ?_
  refine s_get (a := e) (j := 2) c2 rfl ⟨_, rfl⟩ (ea_t he) rfl rfl (v := .ref (e + 3)) (hR_ok c2 (ea_r3 he)) ?_
  refine sP 2 (g1 := (23, [some (.ref e), some (.ref o)], [sI 40, sI 0, .ref (e + 3), sI 0, .ref (o + 3)], (hcpy (hcpy h (o + 1) (e + 1)) (o + 2) (e + 2)))) rfl ?_
  refine s_acp (a0 := o + 3) (a1 := e + 3) (n := 40) c2 rfl ⟨_, rfl⟩ rfl (ea_3 ho) (ea_3 he) (by decide) t3 rfl ?_
  refine sP 2 (g1 := (26, [some (.ref e), some (.ref o)], [.ref o, .ref e], (hcpy (hcpy (hcpy h (o + 1) (e + 1)) (o + 2) (e + 2)) (o + 3) (e + 3)))) rfl ?_
  refine s_get (a := o) (j := 3) c3 rfl ⟨_, rfl⟩ (ea_t ho) rfl rfl (v := sI (hI h o 3)) (by rw [s3, if_neg (by omega), s2, if_neg (by omega), s1, if_neg (by omega)]; exact p3) ?_
  refine s_put (a := e) (j := 3) c3 rfl ⟨_, rfl⟩ (ea_t he) rfl rfl (by omega) rfl ?_
  refine sP 2 (g1 := (30, [some (.ref e), some (.ref o)], [.ref o, .ref e], (hset (hcpy (hcpy (hcpy h (o + 1) (e + 1)) (o + 2) (e + 2)) (o + 3) (e + 3)) e 3 (sI (hI h o 3))))) rfl ?_
  refine s_get (a := o) (j := 4) d3 rfl ⟨_, rfl⟩ (ea_t ho) rfl rfl (v := sI (hI h o 4)) (by rw [u3, if_neg (by omega), s3, if_neg (by omega), s2, if_neg (by omega), s1, if_neg (by omega)]; exact p4) ?_
  refine s_put (a := e) (j := 4) d3 rfl ⟨_, rfl⟩ (ea_t he) rfl rfl (by omega) rfl ?_
  refine sP 2 (g1 := (34, [some (.ref e), some (.ref o)], [.ref o, .ref e], (hset (hset (hcpy (hcpy (hcpy h (o + 1) (e + 1)) (o + 2) (e + 2)) (o + 3) (e + 3)) e 3 (sI (hI h o 3))) e 4 (sI (hI h o 4))))) rfl ?_
  refine s_get (a := o) (j := 5) d4 rfl ⟨_, rfl⟩ (ea_t ho) rfl rfl (v := sI (hI h o 5)) (by rw [u4, if_neg (by omega), u3, if_neg (by omega), s3, if_neg (by omega), s2, if_neg (by omega), s1, if_neg (by omega)]; exact p5) ?_
  refine s_put (a := e) (j := 5) d4 rfl ⟨_, rfl⟩ (ea_t he) rfl rfl (by omega) rfl ?_
  refine sP 2 (g1 := (38, [some (.ref e), some (.ref o)], [.ref o, .ref e], (hset (hset (hset (hcpy (hcpy (hcpy h (o + 1) (e + 1)) (o + 2) (e + 2)) (o + 3) (e + 3)) e 3 (sI (hI h o 3))) e 4 (sI (hI h o 4))) e 5 (sI (hI h o 5))))) rfl ?_
  refine s_get (a := o) (j := 6) d5 rfl ⟨_, rfl⟩ (ea_t ho) rfl rfl (v := .long z) (by rw [u5, if_neg (by omega), u4, if_neg (by omega), u3, if_neg (by omega), s3, if_neg (by omega), s2, if_neg (by omega), s1, if_neg (by omega)]; exact p6) ?_
  refine s_put (a := e) (j := 6) d5 rfl ⟨_, rfl⟩ (ea_t he) rfl rfl (by omega) rfl ?_
  exact s_ret rfl rfl
end EMB

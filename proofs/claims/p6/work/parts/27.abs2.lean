/-! one instruction in the analyser: arithmetic -/
noncomputable def aC1 (v : aV) : Bool := decide (v.1 < 6) && v.1 != 1
noncomputable def aA2 (en : mE) (S : aSt) (i : Nat) (L st : List aV) : Option (List aQ) := match en.2.1 with
  | .iinc k n => match L[k]? with
    | some v => if v.1 = 0 then some [((aCl S aMi aMa (aAd v.2.1 (aK (Int32.ofInt n).toInt))).1, i + 1, (aKl L k).set k (0, (aCl S aMi aMa (aAd v.2.1 (aK (Int32.ofInt n).toInt))).2, 0), st)] else none
    | none => none
  | .dup => match st with
    | v :: s => if aC1 v = true then some [(S, i + 1, L, v :: v :: s)] else none
    | _ => none
  | .dup2 => match st with
    | v :: u :: s => if aC1 v = true ∧ aC1 u = true then some [(S, i + 1, L, v :: u :: v :: u :: s)] else none
    | _ => none
  | .pop => match st with
    | v :: s => if aC1 v = true then some [(S, i + 1, L, s)] else none
    | _ => none
  | .pop2 => match st with
    | v :: s => if v.1 = 1 then some [(S, i + 1, L, s)] else none
    | _ => none
  | _ => none
noncomputable def aOne (p : aP) (k i : Nat) (L s : List aV) : Option (List aQ) := some [(p.1, i + 1, L, (k, p.2, 0) :: s)]
noncomputable def aTwo (p : Option aP) (k i : Nat) (L s : List aV) : Option (List aQ) := match p with
  | some p => aOne p k i L s
  | none => none
noncomputable def aAll (S : aSt) (mi ma : Int) : aP := (aNw S mi ma, aVr S.1.length)
noncomputable def aB1 (en : mE) (S : aSt) (i : Nat) (L st : List aV) : Option (List aQ) := match en.2.1 with
  | .iadd => match st with
    | (0, y, _) :: (0, x, _) :: s => aOne (aCl S aMi aMa (aAd x y)) 0 i L s
    | _ => none
  | .isub => match st with
    | (0, y, _) :: (0, x, _) :: s => aOne (aCl S aMi aMa (aSb x y)) 0 i L s
    | _ => none
  | .imul => match st with
    | (0, y, _) :: (0, x, _) :: s => aOne (aMul S aMi aMa x y) 0 i L s
    | _ => none
  | .iand => match st with
    | (0, y, _) :: (0, x, _) :: s => aOne (aAnd S x y) 0 i L s
    | _ => none
  | .ior => match st with
    | (0, y, _) :: (0, x, _) :: s => aOne (aOrX S true x y) 0 i L s
    | _ => none
  | .ixor => match st with
    | (0, y, _) :: (0, x, _) :: s => aOne (aOrX S false x y) 0 i L s
    | _ => none
  | .ishl => match st with
    | (0, y, _) :: (0, x, _) :: s => aOne (aShl S x y) 0 i L s
    | _ => none
  | .ishr => match st with
    | (0, y, _) :: (0, x, _) :: s => aOne (aShr S x y) 0 i L s
    | _ => none
  | .iushr => match st with
    | (0, y, _) :: (0, x, _) :: s => aOne (aAll S aMi aMa) 0 i L s
    | _ => none
  | .idiv => match st with
    | (0, y, _) :: (0, x, _) :: s => aTwo (aDiv S aMi aMa x y) 0 i L s
    | _ => none
  | .irem => match st with
    | (0, y, _) :: (0, x, _) :: s => aTwo (aRem S aMi aMa x y) 0 i L s
    | _ => none
  | .ineg => match st with
    | (0, x, _) :: s => aOne (aCl S aMi aMa (aSc (-1) x)) 0 i L s
    | _ => none
  | _ => none
noncomputable def aB2 (en : mE) (S : aSt) (i : Nat) (L st : List aV) : Option (List aQ) := match en.2.1 with
  | .ladd => match st with
    | (1, y, _) :: (1, x, _) :: s => aOne (aCl S aLi aLa (aAd x y)) 1 i L s
    | _ => none
  | .lsub => match st with
    | (1, y, _) :: (1, x, _) :: s => aOne (aCl S aLi aLa (aSb x y)) 1 i L s
    | _ => none
  | .lmul => match st with
    | (1, y, _) :: (1, x, _) :: s => aOne (aMul S aLi aLa x y) 1 i L s
    | _ => none
  | .land => match st with
    | (1, y, _) :: (1, x, _) :: s => aOne (aAll S aLi aLa) 1 i L s
    | _ => none
  | .lor => match st with
    | (1, y, _) :: (1, x, _) :: s => aOne (aAll S aLi aLa) 1 i L s
    | _ => none
  | .lxor => match st with
    | (1, y, _) :: (1, x, _) :: s => aOne (aAll S aLi aLa) 1 i L s
    | _ => none
  | .ldiv => match st with
    | (1, y, _) :: (1, x, _) :: s => aTwo (aDiv S aLi aLa x y) 1 i L s
    | _ => none
  | .lrem => match st with
    | (1, y, _) :: (1, x, _) :: s => aTwo (aRem S aLi aLa x y) 1 i L s
    | _ => none
  | .lshl => match st with
    | (0, _, _) :: (1, _, _) :: s => aOne (aAll S aLi aLa) 1 i L s
    | _ => none
  | .lushr => match st with
    | (0, _, _) :: (1, _, _) :: s => aOne (aAll S aLi aLa) 1 i L s
    | _ => none
  | .lcmp => match st with
    | (1, y, _) :: (1, x, _) :: s => some [(S, i + 1, L, (5, aSb x y, 0) :: s)]
    | _ => none
  | .i2l => match st with
    | (0, x, _) :: s => some [(S, i + 1, L, (1, x, 0) :: s)]
    | _ => none
  | .l2i => match st with
    | (1, x, _) :: s => aOne (aCl S aMi aMa x) 0 i L s
    | _ => none
  | .i2b => match st with
    | (0, x, _) :: s => aOne (aCl S (-128) 127 x) 0 i L s
    | _ => none
  | _ => none
section AB2
variable {r : Nat → Int} {S : aSt} {m0 : Int} {h : mH} {L : List aV} {M : mL} {st : List aV} {su : List Value} {i : Nat} {en : mE} {l : List aQ}
theorem aC1_ok {n : Nat} {v : aV} {w : Value} (hc : aC1 v = true) (hv : aVs n r v w) : w.category = 1 := by
  unfold aC1 at hc
  simp only [Bool.and_eq_true, decide_eq_true_eq, bne_iff_ne] at hc
  exact aVs_cat hv hc.1 hc.2
theorem aCat2 {n : Nat} {v : aV} {w : Value} (hc : v.1 = 1) (hv : aVs n r v w) : w.category = 2 := by
  obtain ⟨-, hv⟩ := hv
  rw [hc] at hv
  obtain ⟨z, rfl, -⟩ := hv
  rfl
theorem aVs0 {n : Nat} {e : aX} {k : Nat} {w : Value} (h : aVs n r (0, e, k) w) : aWf n e ∧ ∃ z : Int32, w = .int z ∧ z.toInt = aEv r e := h
theorem aVs1 {n : Nat} {e : aX} {k : Nat} {w : Value} (h : aVs n r (1, e, k) w) : aWf n e ∧ ∃ z : Int64, w = .long z ∧ z.toInt = aEv r e := h
set_option maxHeartbeats 2000000 in
theorem aA2_ok (hS : aOk r S m0 h) (hh : aHp h) (hL : aFs S.1.length r L M) (hs : aSk S.1.length r st su) (hl : aA2 en S i L st = some l) : ∃ g1, mA2 en i M su h = some g1 ∧ aGood r S m0 l g1 := by
  unfold aA2 at hl
  unfold mA2
  split at hl
  · rename_i k n heq
    rw [heq]
    split at hl
    · rename_i v hv
      split at hl
      · rename_i h0
        cases hl
        obtain ⟨w, h1, h2⟩ := hL.2 k v hv (by omega)
        have hlt : k < M.length := by rw [← hL.1]; exact (List.getElem?_eq_some_iff.mp hv).1
        obtain ⟨hw, h2⟩ := h2
        rw [h0] at h2
        obtain ⟨z, rfl, hz⟩ := h2
        dsimp only
        rw [h1]
        dsimp only
        rw [if_pos hlt]
        obtain ⟨r1, q1, q2, q3, q4⟩ := aCl_ok (z := (z + Int32.ofInt n).toInt) (mi := aMi) (ma := aMa) (e := aAd v.2.1 (aK (Int32.ofInt n).toInt)) hS (aAd_wf hw (aK_wf _ _)) (aI_rg _).1 (aI_rg _).2 (by
          rw [aAd_ev, aK_ev, ← hz]
          exact aI_add)
        exact ⟨_, rfl, _, List.mem_cons_self, r1, q1, hh, q2, rfl, aSet_fs (aKl_fs (hL.le q2)) ⟨q3, _, rfl, q4⟩, hs.le q2⟩
      · cases hl
    · cases hl
  · rename_i heq
    rw [heq]
    split at hl
    · rename_i v s
      split at hl
      · rename_i hc
        cases hl
        obtain ⟨w, t, rfl, h1, h2⟩ := hs.cons
        dsimp only
        rw [if_pos (aC1_ok hc h1)]
        exact ⟨_, rfl, aGood.same hS hh hL ⟨h1, h1, h2⟩⟩
      · cases hl
    · cases hl
  · rename_i heq
    rw [heq]
    split at hl
    · rename_i v u s
      split at hl
      · rename_i hc
        cases hl
        obtain ⟨w, t, rfl, h1, h2⟩ := hs.cons
        obtain ⟨w2, t2, rfl, h3, h4⟩ := h2.cons
        dsimp only
        rw [if_pos ⟨aC1_ok hc.1 h1, aC1_ok hc.2 h3⟩]
        exact ⟨_, rfl, aGood.same hS hh hL ⟨h1, h3, h1, h3, h4⟩⟩
      · cases hl
    · cases hl
  · rename_i heq
    rw [heq]
    split at hl
    · rename_i v s
      split at hl
      · rename_i hc
        cases hl
        obtain ⟨w, t, rfl, h1, h2⟩ := hs.cons
        dsimp only
        rw [if_pos (aC1_ok hc h1)]
        exact ⟨_, rfl, aGood.same hS hh hL h2⟩
      · cases hl
    · cases hl
  · rename_i heq
    rw [heq]
    split at hl
    · rename_i v s
      split at hl
      · rename_i hc
        cases hl
        obtain ⟨w, t, rfl, h1, h2⟩ := hs.cons
        dsimp only
        rw [if_pos (aCat2 hc h1)]
        exact ⟨_, rfl, aGood.same hS hh hL h2⟩
      · cases hl
    · cases hl
  · cases hl
theorem aAll_ok {mi ma z : Int} (hS : aOk r S m0 h) (h1 : mi ≤ z) (h2 : z ≤ ma) : aRes r S m0 h (aAll S mi ma) z := aRes.new hS h1 h2
set_option maxHeartbeats 4000000 in
theorem aB1_ok (hS : aOk r S m0 h) (hh : aHp h) (hL : aFs S.1.length r L M) (hs : aSk S.1.length r st su) (hl : aB1 en S i L st = some l) : ∃ g1, mB1 en i M su h = some g1 ∧ aGood r S m0 l g1 := by
  unfold aB1 at hl
  unfold mB1
  split at hl
  · rename_i heq
    rw [heq]
    split at hl
    · rename_i y ky x kx s
      obtain ⟨w1, t1, rfl, h1, h2⟩ := hs.cons
      obtain ⟨w2, t2, rfl, h3, h4⟩ := h2.cons
      obtain ⟨wy, v, rfl, ev⟩ := aVs0 h1
      obtain ⟨wx, u, rfl, eu⟩ := aVs0 h3
      dsimp only
      cases hl
      exact ⟨_, rfl, aGood.int hh hL h4 (aCl_ok hS (aAd_wf wx wy) (aI_rg _).1 (aI_rg _).2 (by rw [aAd_ev, ← eu, ← ev]; exact aI_add))⟩
    · cases hl
  · rename_i heq
    rw [heq]
    split at hl
    · rename_i y ky x kx s
      obtain ⟨w1, t1, rfl, h1, h2⟩ := hs.cons
      obtain ⟨w2, t2, rfl, h3, h4⟩ := h2.cons
      obtain ⟨wy, v, rfl, ev⟩ := aVs0 h1
      obtain ⟨wx, u, rfl, eu⟩ := aVs0 h3
      dsimp only
      cases hl
      exact ⟨_, rfl, aGood.int hh hL h4 (aCl_ok hS (aSb_wf wx wy) (aI_rg _).1 (aI_rg _).2 (by rw [aSb_ev, ← eu, ← ev]; exact aI_sub))⟩
    · cases hl
  · rename_i heq
    rw [heq]
    split at hl
    · rename_i y ky x kx s
      obtain ⟨w1, t1, rfl, h1, h2⟩ := hs.cons
      obtain ⟨w2, t2, rfl, h3, h4⟩ := h2.cons
      obtain ⟨wy, v, rfl, ev⟩ := aVs0 h1
      obtain ⟨wx, u, rfl, eu⟩ := aVs0 h3
      dsimp only
      cases hl
      exact ⟨_, rfl, aGood.int hh hL h4 (aMul_ok hS wx wy (aI_rg _).1 (aI_rg _).2 (by decide) (by rw [← eu, ← ev]; exact aI_mul))⟩
    · cases hl
  · rename_i heq
    rw [heq]
    split at hl
    · rename_i y ky x kx s
      obtain ⟨w1, t1, rfl, h1, h2⟩ := hs.cons
      obtain ⟨w2, t2, rfl, h3, h4⟩ := h2.cons
      obtain ⟨wy, v, rfl, ev⟩ := aVs0 h1
      obtain ⟨wx, u, rfl, eu⟩ := aVs0 h3
      dsimp only
      cases hl
      exact ⟨_, rfl, aGood.int hh hL h4 (aAnd_ok hS wx wy eu ev)⟩
    · cases hl
  · rename_i heq
    rw [heq]
    split at hl
    · rename_i y ky x kx s
      obtain ⟨w1, t1, rfl, h1, h2⟩ := hs.cons
      obtain ⟨w2, t2, rfl, h3, h4⟩ := h2.cons
      obtain ⟨wy, v, rfl, ev⟩ := aVs0 h1
      obtain ⟨wx, u, rfl, eu⟩ := aVs0 h3
      dsimp only
      cases hl
      exact ⟨_, rfl, aGood.int hh hL h4 (by have key := aOrX_ok (o := true) hS wx wy eu ev; exact key)⟩
    · cases hl
  · rename_i heq
    rw [heq]
    split at hl
    · rename_i y ky x kx s
      obtain ⟨w1, t1, rfl, h1, h2⟩ := hs.cons
      obtain ⟨w2, t2, rfl, h3, h4⟩ := h2.cons
      obtain ⟨wy, v, rfl, ev⟩ := aVs0 h1
      obtain ⟨wx, u, rfl, eu⟩ := aVs0 h3
      dsimp only
      cases hl
      exact ⟨_, rfl, aGood.int hh hL h4 (by have key := aOrX_ok (o := false) hS wx wy eu ev; exact key)⟩
    · cases hl
  · rename_i heq
    rw [heq]
    split at hl
    · rename_i y ky x kx s
      obtain ⟨w1, t1, rfl, h1, h2⟩ := hs.cons
      obtain ⟨w2, t2, rfl, h3, h4⟩ := h2.cons
      obtain ⟨wy, v, rfl, ev⟩ := aVs0 h1
      obtain ⟨wx, u, rfl, eu⟩ := aVs0 h3
      dsimp only
      cases hl
      exact ⟨_, rfl, aGood.int hh hL h4 (aShl_ok hS wx wy eu ev)⟩
    · cases hl
  · rename_i heq
    rw [heq]
    split at hl
    · rename_i y ky x kx s
      obtain ⟨w1, t1, rfl, h1, h2⟩ := hs.cons
      obtain ⟨w2, t2, rfl, h3, h4⟩ := h2.cons
      obtain ⟨wy, v, rfl, ev⟩ := aVs0 h1
      obtain ⟨wx, u, rfl, eu⟩ := aVs0 h3
      dsimp only
      cases hl
      exact ⟨_, rfl, aGood.int hh hL h4 (aShr_ok hS wx wy eu ev)⟩
    · cases hl
  · rename_i heq
    rw [heq]
    split at hl
    · rename_i y ky x kx s
      obtain ⟨w1, t1, rfl, h1, h2⟩ := hs.cons
      obtain ⟨w2, t2, rfl, h3, h4⟩ := h2.cons
      obtain ⟨wy, v, rfl, ev⟩ := aVs0 h1
      obtain ⟨wx, u, rfl, eu⟩ := aVs0 h3
      dsimp only
      cases hl
      exact ⟨_, rfl, aGood.int hh hL h4 (aAll_ok hS (aI_rg _).1 (aI_rg _).2)⟩
    · cases hl
  · rename_i heq
    rw [heq]
    split at hl
    · rename_i y ky x kx s
      obtain ⟨w1, t1, rfl, h1, h2⟩ := hs.cons
      obtain ⟨w2, t2, rfl, h3, h4⟩ := h2.cons
      obtain ⟨wy, v, rfl, ev⟩ := aVs0 h1
      obtain ⟨wx, u, rfl, eu⟩ := aVs0 h3
      dsimp only
      unfold aTwo at hl
      split at hl
      · rename_i p hp
        cases hl
        have key := aDiv_ok (z := (u / v).toInt) hS wx wy (aI_rg _).1 (aI_rg _).2 (by rw [← eu, ← ev]; exact aI_tdiv) hp
        rw [if_neg (fun e0 => key.1 (by rw [← ev, e0]; rfl))]
        exact ⟨_, rfl, aGood.int hh hL h4 key.2⟩
      · cases hl
    · cases hl
  · rename_i heq
    rw [heq]
    split at hl
    · rename_i y ky x kx s
      obtain ⟨w1, t1, rfl, h1, h2⟩ := hs.cons
      obtain ⟨w2, t2, rfl, h3, h4⟩ := h2.cons
      obtain ⟨wy, v, rfl, ev⟩ := aVs0 h1
      obtain ⟨wx, u, rfl, eu⟩ := aVs0 h3
      dsimp only
      unfold aTwo at hl
      split at hl
      · rename_i p hp
        cases hl
        have key := aRem_ok (z := (u - u / v * v).toInt) hS wx wy (aI_rg _).1 (aI_rg _).2 (by rw [← eu, ← ev]; exact aI_rem u v) hp
        rw [if_neg (fun e0 => key.1 (by rw [← ev, e0]; rfl))]
        exact ⟨_, rfl, aGood.int hh hL h4 key.2⟩
      · cases hl
    · cases hl
  · rename_i heq
    rw [heq]
    split at hl
    · rename_i x kx s
      obtain ⟨w1, t1, rfl, h1, h2⟩ := hs.cons
      obtain ⟨wx, u, rfl, eu⟩ := aVs0 h1
      dsimp only
      cases hl
      exact ⟨_, rfl, aGood.int hh hL h2 (aCl_ok hS (aSc_wf wx) (aI_rg _).1 (aI_rg _).2 (by rw [aSc_ev, ← eu, Int.neg_one_mul]; exact aI_neg))⟩
    · cases hl
  · cases hl
set_option maxHeartbeats 4000000 in
theorem aB2_ok (hS : aOk r S m0 h) (hh : aHp h) (hL : aFs S.1.length r L M) (hs : aSk S.1.length r st su) (hl : aB2 en S i L st = some l) : ∃ g1, mB2 en i M su h = some g1 ∧ aGood r S m0 l g1 := by
  unfold aB2 at hl
  unfold mB2
  split at hl
  · rename_i heq
    rw [heq]
    split at hl
    · rename_i y ky x kx s
      obtain ⟨w1, t1, rfl, h1, h2⟩ := hs.cons
      obtain ⟨w2, t2, rfl, h3, h4⟩ := h2.cons
      obtain ⟨wy, v, rfl, ev⟩ := aVs1 h1
      obtain ⟨wx, u, rfl, eu⟩ := aVs1 h3
      dsimp only
      cases hl
      exact ⟨_, rfl, aGood.long hh hL h4 (aCl_ok hS (aAd_wf wx wy) (aL_rg _).1 (aL_rg _).2 (by rw [aAd_ev, ← eu, ← ev]; exact aL_add))⟩
    · cases hl
  · rename_i heq
    rw [heq]
    split at hl
    · rename_i y ky x kx s
      obtain ⟨w1, t1, rfl, h1, h2⟩ := hs.cons
      obtain ⟨w2, t2, rfl, h3, h4⟩ := h2.cons
      obtain ⟨wy, v, rfl, ev⟩ := aVs1 h1
      obtain ⟨wx, u, rfl, eu⟩ := aVs1 h3
      dsimp only
      cases hl
      exact ⟨_, rfl, aGood.long hh hL h4 (aCl_ok hS (aSb_wf wx wy) (aL_rg _).1 (aL_rg _).2 (by rw [aSb_ev, ← eu, ← ev]; exact aL_sub))⟩
    · cases hl
  · rename_i heq
    rw [heq]
    split at hl
    · rename_i y ky x kx s
      obtain ⟨w1, t1, rfl, h1, h2⟩ := hs.cons
      obtain ⟨w2, t2, rfl, h3, h4⟩ := h2.cons
      obtain ⟨wy, v, rfl, ev⟩ := aVs1 h1
      obtain ⟨wx, u, rfl, eu⟩ := aVs1 h3
      dsimp only
      cases hl
      exact ⟨_, rfl, aGood.long hh hL h4 (aMul_ok hS wx wy (aL_rg _).1 (aL_rg _).2 (by decide) (by rw [← eu, ← ev]; exact aL_mul))⟩
    · cases hl
  · rename_i heq
    rw [heq]
    split at hl
    · rename_i y ky x kx s
      obtain ⟨w1, t1, rfl, h1, h2⟩ := hs.cons
      obtain ⟨w2, t2, rfl, h3, h4⟩ := h2.cons
      obtain ⟨wy, v, rfl, ev⟩ := aVs1 h1
      obtain ⟨wx, u, rfl, eu⟩ := aVs1 h3
      dsimp only
      cases hl
      exact ⟨_, rfl, aGood.long hh hL h4 (aAll_ok hS (aL_rg _).1 (aL_rg _).2)⟩
    · cases hl
  · rename_i heq
    rw [heq]
    split at hl
    · rename_i y ky x kx s
      obtain ⟨w1, t1, rfl, h1, h2⟩ := hs.cons
      obtain ⟨w2, t2, rfl, h3, h4⟩ := h2.cons
      obtain ⟨wy, v, rfl, ev⟩ := aVs1 h1
      obtain ⟨wx, u, rfl, eu⟩ := aVs1 h3
      dsimp only
      cases hl
      exact ⟨_, rfl, aGood.long hh hL h4 (aAll_ok hS (aL_rg _).1 (aL_rg _).2)⟩
    · cases hl
  · rename_i heq
    rw [heq]
    split at hl
    · rename_i y ky x kx s
      obtain ⟨w1, t1, rfl, h1, h2⟩ := hs.cons
      obtain ⟨w2, t2, rfl, h3, h4⟩ := h2.cons
      obtain ⟨wy, v, rfl, ev⟩ := aVs1 h1
      obtain ⟨wx, u, rfl, eu⟩ := aVs1 h3
      dsimp only
      cases hl
      exact ⟨_, rfl, aGood.long hh hL h4 (aAll_ok hS (aL_rg _).1 (aL_rg _).2)⟩
    · cases hl
  · rename_i heq
    rw [heq]
    split at hl
    · rename_i y ky x kx s
      obtain ⟨w1, t1, rfl, h1, h2⟩ := hs.cons
      obtain ⟨w2, t2, rfl, h3, h4⟩ := h2.cons
      obtain ⟨wy, v, rfl, ev⟩ := aVs1 h1
      obtain ⟨wx, u, rfl, eu⟩ := aVs1 h3
      dsimp only
      unfold aTwo at hl
      split at hl
      · rename_i p hp
        cases hl
        have key := aDiv_ok (z := (u / v).toInt) hS wx wy (aL_rg _).1 (aL_rg _).2 (by rw [← eu, ← ev]; exact lg_ldiv_nonneg) hp
        rw [if_neg (fun e0 => key.1 (by rw [← ev, e0]; rfl))]
        exact ⟨_, rfl, aGood.long hh hL h4 key.2⟩
      · cases hl
    · cases hl
  · rename_i heq
    rw [heq]
    split at hl
    · rename_i y ky x kx s
      obtain ⟨w1, t1, rfl, h1, h2⟩ := hs.cons
      obtain ⟨w2, t2, rfl, h3, h4⟩ := h2.cons
      obtain ⟨wy, v, rfl, ev⟩ := aVs1 h1
      obtain ⟨wx, u, rfl, eu⟩ := aVs1 h3
      dsimp only
      unfold aTwo at hl
      split at hl
      · rename_i p hp
        cases hl
        have key := aRem_ok (z := (u - u / v * v).toInt) hS wx wy (aL_rg _).1 (aL_rg _).2 (by rw [← eu, ← ev]; exact aL_rem u v) hp
        rw [if_neg (fun e0 => key.1 (by rw [← ev, e0]; rfl))]
        exact ⟨_, rfl, aGood.long hh hL h4 key.2⟩
      · cases hl
    · cases hl
  · rename_i heq
    rw [heq]
    split at hl
    · rename_i y ky x kx s
      obtain ⟨w1, t1, rfl, h1, h2⟩ := hs.cons
      obtain ⟨w2, t2, rfl, h3, h4⟩ := h2.cons
      obtain ⟨wy, v, rfl, ev⟩ := aVs0 h1
      obtain ⟨wx, u, rfl, eu⟩ := aVs1 h3
      dsimp only
      cases hl
      exact ⟨_, rfl, aGood.long hh hL h4 (aAll_ok hS (aL_rg _).1 (aL_rg _).2)⟩
    · cases hl
  · rename_i heq
    rw [heq]
    split at hl
    · rename_i y ky x kx s
      obtain ⟨w1, t1, rfl, h1, h2⟩ := hs.cons
      obtain ⟨w2, t2, rfl, h3, h4⟩ := h2.cons
      obtain ⟨wy, v, rfl, ev⟩ := aVs0 h1
      obtain ⟨wx, u, rfl, eu⟩ := aVs1 h3
      dsimp only
      cases hl
      exact ⟨_, rfl, aGood.long hh hL h4 (aAll_ok hS (aL_rg _).1 (aL_rg _).2)⟩
    · cases hl
  · rename_i heq
    rw [heq]
    split at hl
    · rename_i y ky x kx s
      obtain ⟨w1, t1, rfl, h1, h2⟩ := hs.cons
      obtain ⟨w2, t2, rfl, h3, h4⟩ := h2.cons
      obtain ⟨wy, v, rfl, ev⟩ := aVs1 h1
      obtain ⟨wx, u, rfl, eu⟩ := aVs1 h3
      dsimp only
      cases hl
      refine ⟨_, rfl, aGood.same hS hh hL ⟨⟨aSb_wf wx wy, lg_cmp u v, rfl, ?_⟩, h4⟩⟩
      show (lg_cmp u v).toInt = _
      rw [aSb_ev, ← eu, ← ev]
      rcases lg_tri u v with c1 | c1 | c1
      · have c2 := Int64.lt_iff_toInt_lt.mp c1
        have e1 : lg_cmp u v = -1 := by unfold lg_cmp; simp [lg_lt_not c1, lg_lt_ne c1]
        rw [e1, if_neg (by omega), if_neg (by omega)]; rfl
      · have e1 : lg_cmp u v = 0 := by unfold lg_cmp; simp [c1]
        rw [e1, c1, if_neg (by omega), if_pos (by omega)]; rfl
      · have c2 := Int64.lt_iff_toInt_lt.mp c1
        have e1 : lg_cmp u v = 1 := by unfold lg_cmp; simp [c1]
        rw [e1, if_pos (by omega)]; rfl
    · cases hl
  · rename_i heq
    rw [heq]
    split at hl
    · rename_i x kx s
      obtain ⟨w1, t1, rfl, h1, h2⟩ := hs.cons
      obtain ⟨wx, u, rfl, eu⟩ := aVs0 h1
      dsimp only
      cases hl
      exact ⟨_, rfl, aGood.same hS hh hL ⟨⟨wx, u.toInt64, rfl, by rw [Int32.toInt_toInt64]; exact eu⟩, h2⟩⟩
    · cases hl
  · rename_i heq
    rw [heq]
    split at hl
    · rename_i x kx s
      obtain ⟨w1, t1, rfl, h1, h2⟩ := hs.cons
      obtain ⟨wx, u, rfl, eu⟩ := aVs1 h1
      dsimp only
      cases hl
      exact ⟨_, rfl, aGood.int hh hL h2 (aCl_ok hS wx (aI_rg _).1 (aI_rg _).2 (by rw [← eu, Int64.toInt_toInt32]; exact fun q1 q2 => bmod32 q1 q2))⟩
    · cases hl
  · rename_i heq
    rw [heq]
    split at hl
    · rename_i x kx s
      obtain ⟨w1, t1, rfl, h1, h2⟩ := hs.cons
      obtain ⟨wx, u, rfl, eu⟩ := aVs0 h1
      dsimp only
      cases hl
      have hb := lg_i2b_range u
      exact ⟨_, rfl, aGood.int hh hL h2 (aCl_ok hS wx hb.1 (by omega) (by rw [← eu]; exact fun q1 q2 => by rw [lg_i2b_small q1 (by omega)]))⟩
    · cases hl
  · cases hl
end AB2

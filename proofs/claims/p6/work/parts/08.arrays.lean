/-! arrays -/
noncomputable def mEv (D : va_G) (cA : Nat → ClassId) (b : Nat) (x : Nat → Nat) (xs : Nat → List Int32) (U : State) : Prop :=
  va_K D mCl (mTys cA) U ∧ (∀ n, n < 3 → va_T .int (x n) (xs n).length (fun j => .int ((xs n).getD j 0)) (fun q => b ≤ q) U U.heap) ∧
  va_Z "FirstLanding$Kind" "LETTERS" "[I" (.ref (x 1)) (fun q => b ≤ q) U U.heap ∧ va_Z "FirstLanding$Kind" "PARENTS" "[I" (.ref (x 2)) (fun q => b ≤ q) U U.heap ∧
  (∀ w ∈ mWN, va_Nw w U) ∧ (va_AO "FirstLanding$Row" U ∧ va_AO "FirstLanding$Text" U ∧ va_AO "FirstLanding$Embassy" U)
theorem mEv.to {D : va_G} {cA : Nat → ClassId} {b : Nat} {x : Nat → Nat} {xs : Nat → List Int32} {s U : State} (h : mEv D cA b x xs s) (hN : ∀ w ∈ mWN, va_Nw w U) (hA : s.vm.Alike U.vm) (hh : ∀ a : Nat, a < s.heap.size → ¬ (fun q => b ≤ q) a → U.heap[a]? = s.heap[a]?) : mEv D cA b x xs U :=
  ⟨h.1.moved hA, fun n hn => ((h.2.1 n hn).moved hA).kept hh, (h.2.2.1.moved hA).kept hh, (h.2.2.2.1.moved hA).kept hh, hN, h.2.2.2.2.2.1.moved hA, h.2.2.2.2.2.2.1.moved hA, h.2.2.2.2.2.2.2.moved hA⟩
noncomputable def mIx (j : Int32) (n : Nat) : Bool := decide (¬ (j < 0 ∨ n ≤ j.toNatClampNeg))
noncomputable def mF2 (xs : Nat → List Int32) (en : mE) (i : Nat) (L : mL) (st : List Value) (h : mH) : Option mG := match en.2.1 with
  | .getstatic _ => if mTgt en 1 = 1 ∨ mTgt en 1 = 2 then some (i + 1, L, .retAddr (mTgt en 1) :: st, h) else none
  | .arraylength => match st with
    | .ref a :: r => match h[a]? with
      | some q => if 50 ≤ q.1 ∧ q.1 < 56 then some (i + 1, L, .int (Int32.ofNat q.2.length) :: r, h) else none
      | none => none
    | .retAddr n :: r => if n < 3 then some (i + 1, L, .int (Int32.ofNat (xs n).length) :: r, h) else none
    | _ => none
  | .iaload => match st with
    | .int j :: .ref a :: r => match h[a]? with
      | some q => if q.1 = 50 ∧ mIx j q.2.length = true then (match q.2[j.toNatClampNeg]? with
        | some v => some (i + 1, L, v :: r, h)
        | none => none) else none
      | none => none
    | .int j :: .retAddr n :: r => if n < 3 ∧ mIx j (xs n).length = true then some (i + 1, L, .int ((xs n).getD j.toNatClampNeg 0) :: r, h) else none
    | _ => none
  | .baload => match st with
    | .int j :: .ref a :: r => match h[a]? with
      | some q => if (q.1 = 51 ∨ q.1 = 52) ∧ mIx j q.2.length = true then (match q.2[j.toNatClampNeg]? with
        | some v => some (i + 1, L, v :: r, h)
        | none => none) else none
      | none => none
    | _ => none
  | .aaload => match st with
    | .int j :: .ref a :: r => match h[a]? with
      | some q => if (53 ≤ q.1 ∧ q.1 < 56) ∧ mIx j q.2.length = true then (match q.2[j.toNatClampNeg]? with
        | some v => some (i + 1, L, v :: r, h)
        | none => none) else none
      | none => none
    | _ => none
  | _ => none
noncomputable def mElC (t : Nat) : Nat := if t = 53 then 5 else if t = 54 then 6 else 1
noncomputable def mF3 (en : mE) (i : Nat) (L : mL) (st : List Value) (h : mH) : Option mG := match en.2.1 with
  | .iastore => match st with
    | .int v :: .int j :: .ref a :: r => match h[a]? with
      | some q => if q.1 = 50 ∧ mIx j q.2.length = true then some (i + 1, L, r, h.set a (q.1, q.2.set j.toNatClampNeg (.int v))) else none
      | none => none
    | _ => none
  | .bastore => match st with
    | .int v :: .int j :: .ref a :: r => match h[a]? with
      | some q => if q.1 = 51 ∧ mIx j q.2.length = true then some (i + 1, L, r, h.set a (q.1, q.2.set j.toNatClampNeg (.int v.toInt8.toInt32))) else if q.1 = 52 ∧ mIx j q.2.length = true then some (i + 1, L, r, h.set a (q.1, q.2.set j.toNatClampNeg (.int (v &&& 1)))) else none
      | none => none
    | _ => none
  | .aastore => match st with
    | .ref w :: .int j :: .ref a :: r => match h[a]? with
      | some q => match h[w]? with
        | some q2 => if (53 ≤ q.1 ∧ q.1 < 56) ∧ mIx j q.2.length = true ∧ q2.1 = mElC q.1 then some (i + 1, L, r, h.set a (q.1, q.2.set j.toNatClampNeg (.ref w))) else none
        | none => none
      | none => none
    | _ => none
  | _ => none
theorem mTy_at (cA : Nat → ClassId) {t : Nat} (h1 : 50 ≤ t) (h2 : t < 56) : (mTys cA)[t - 50]? = some (cA t, mTagTy t) := by
  rcases (show t = 50 ∨ t = 51 ∨ t = 52 ∨ t = 53 ∨ t = 54 ∨ t = 55 by omega) with rfl | rfl | rfl | rfl | rfl | rfl <;> rfl
theorem mRel.arr {D : va_G} {cA : Nat → ClassId} {b : Nat} {x : Nat → Nat} {h : mH} {H : Heap} (hR : mRel D cA b x h H) {a : Nat} {q : mC} (hq : h[a]? = some q) (h1 : 50 ≤ q.1) : H[b + a]? = some (arrV (cA q.1) q.2.length (fun j => mSh b x (vp_V q.2 j))) := (hR.2 a q hq).2 (by omega)
theorem mRel.put {D : va_G} {cA : Nat → ClassId} {b : Nat} {x : Nat → Nat} {h : mH} {H H1 : Heap} (hR : mRel D cA b x h H) {a k : Nat} {q : mC} {v : Value} (h1 : 50 ≤ q.1) (hk : k < q.2.length) (e : H1[b + a]? = some ((arrV (cA q.1) q.2.length (fun j => mSh b x (vp_V q.2 j))).setSlot k (mSh b x v))) (z : H1.size = H.size) (o : ∀ j : Nat, j ≠ b + a → H1[j]? = H[j]?) : mRel D cA b x (h.set a (q.1, q.2.set k v)) H1 := by
  refine hR.set z o ⟨fun q0 => absurd q0 (by dsimp only; omega), fun _ => ?_⟩
  rw [e, arrV_store]
  dsimp only
  rw [List.length_set]
  congr 2
  funext j
  exact mV_set hk (mSh b x) v j
theorem mIx_ok {j : Int32} {n : Nat} (h : mIx j n = true) : ¬ (j < 0 ∨ n ≤ j.toNatClampNeg) := of_decide_eq_true h
theorem mIx_lt {j : Int32} {n : Nat} (h : mIx j n = true) : j.toNatClampNeg < n := Nat.not_le.mp fun q => (mIx_ok h) (Or.inr q)
noncomputable def mLnkS (own : String) (en : mE) : Bool := match en.2.1 with
  | .getstatic idx => mHas (mTgt en 4) (.fieldLink own idx "FirstLanding$Kind" (if mTgt en 1 = 1 then "LETTERS" else "PARENTS") "[I")
  | _ => true
section MSR
variable {p : Program} {l : Launch} {e : Env} {R : Room} {s : State} {m : MethodId} {args : Array Value} {below : List Frame} {meth : Method} {c : Code} {H : Heap} {locs : List Loc} {cells slots : Nat} {Q : State → Prop}
variable {cc : ByteArray} {cs : List mE} {b : Nat} {x : Nat → Nat} {xs : Nat → List Int32} {en : mE} {i : Nat} {L : mL} {st : List Value} {h : mH} {g : mG} {D : va_G} {cA : Nat → ClassId} {own : String} {ini : Bool}
theorem mArr_in {q : mC} {j : Int32} (f : Nat → Value) (ca : ClassId) (h : mIx j q.2.length = true) : ¬ (j < 0 ∨ (arrV ca q.2.length f).slots.size ≤ j.toNatClampNeg) := by rw [arrV_size]; exact mIx_ok h
theorem mArr_rd {q : mC} {j : Int32} {v : Value} (f : Value → Value) (ca : ClassId) (hv : q.2[j.toNatClampNeg]? = some v) : (arrV ca q.2.length (fun k => f (vp_V q.2 k))).slots[j.toNatClampNeg]? = some (f v) := by
  rw [arrV_read _ _ (List.getElem?_eq_some_iff.mp hv).1]
  unfold vp_V
  rw [List.getD_eq_getElem?_getD, hv]
  rfl
set_option maxHeartbeats 4000000 in
theorem mF2_sim (hx : p.tables.exec = Jvm.exec) (hb : c.code = cc) (hown : s.vm.findClass own = some m.cls) (hts : ∀ w ∈ mW, w.before args s = true) (hE : mEv D cA b x xs s) (hR : mRel D cA b x h H) (hS : va_S (fun q => b ≤ q) s.heap H locs)
    (hd : decode cc (mPcAt cs i) = .ok (en.2.1, mLen en.2.1)) (hf : mPcAt cs (i + 1) = mPcAt cs i + mLen en.2.1) (hlk : mLnkS own en = true)
    (hs : mF2 xs en i L st h = some g) (kk : mFol p l e R s m args below meth c cs (mSh b x) Q H locs cells slots g) : mFol p l e R s m args below meth c cs (mSh b x) Q H locs cells slots (i, L, st, h) ∧ g.2.2.2 = h ∧ g.2.1.length = L.length := by
  obtain ⟨hK, hT, hZ1, hZ2, -, -⟩ := hE
  unfold mF2 at hs
  split at hs
  · rename_i idx heq
    split at hs
    · rename_i hc
      cases hs
      refine ⟨fun ls hl => ?_, rfl, rfl⟩
      have k1 := kk ls hl
      unfold mLnkS at hlk
      rw [heq] at hlk hd hf
      dsimp only [List.map_cons] at k1 hlk ⊢
      rw [hf] at k1
      rcases hc with hc | hc
      · rw [hc] at hlk k1
        exact va_gets hx hb hZ1 hS hown (hts _ (mHas_ok hlk)) (fun z hz => hz) hd k1
      · rw [hc] at hlk k1
        exact va_gets hx hb hZ2 hS hown (hts _ (mHas_ok hlk)) (fun z hz => hz) hd k1
    · cases hs
  · rename_i heq
    rw [heq] at hd hf
    split at hs
    · rename_i a r
      split at hs
      · rename_i q hq
        split at hs
        · rename_i hc
          cases hs
          refine ⟨fun ls hl => ?_, rfl, rfl⟩
          have k1 := kk ls hl
          dsimp only [List.map_cons, mSh] at k1 ⊢
          rw [hf] at k1
          exact W.alen hx hb (hR.arr hq hc.1) ((hK.2 _ _ (mTy_at cA hc.1 hc.2)).1 _ _) (by rw [arrV_size]) rfl rfl hd k1
        · cases hs
      · cases hs
    · rename_i n r
      split at hs
      · rename_i hn
        cases hs
        refine ⟨fun ls hl => ?_, rfl, rfl⟩
        have k1 := kk ls hl
        dsimp only [List.map_cons, mSh] at k1 ⊢
        rw [hf] at k1
        exact va_tlen hx hb (hT n hn) hS rfl hd k1
      · cases hs
    · cases hs
  · rename_i heq
    rw [heq] at hd hf
    split at hs
    · rename_i j a r
      split at hs
      · rename_i q hq
        split at hs
        · rename_i hc
          split at hs
          · rename_i v hv
            cases hs
            refine ⟨fun ls hl => ?_, rfl, rfl⟩
            have k1 := kk ls hl
            dsimp only [List.map_cons] at k1 ⊢
            rw [hf] at k1
            have hty := (hK.2 _ _ (mTy_at cA (t := q.1) (by omega) (by omega))).1 q.2.length (fun j => mSh b x (vp_V q.2 j))
            dsimp only at hty
            rw [show mTagTy q.1 = .int by rw [hc.1]; rfl] at hty
            exact W.iald hx hb (hR.arr hq (by omega)) hty (fun z => by cases z) (mArr_in _ _ hc.2) (mArr_rd (mSh b x) _ hv) rfl rfl hd k1
          · cases hs
        · cases hs
      · cases hs
    · rename_i j n r
      split at hs
      · rename_i hn
        cases hs
        refine ⟨fun ls hl => ?_, rfl, rfl⟩
        have k1 := kk ls hl
        dsimp only [List.map_cons, mSh] at k1 ⊢
        rw [hf] at k1
        exact va_ti hx hb (hT n hn.1) hS (mIx_ok hn.2) rfl hd k1
      · cases hs
    · cases hs
  · rename_i heq
    rw [heq] at hd hf
    split at hs
    · rename_i j a r
      split at hs
      · rename_i q hq
        split at hs
        · rename_i hc
          split at hs
          · rename_i v hv
            cases hs
            refine ⟨fun ls hl => ?_, rfl, rfl⟩
            have k1 := kk ls hl
            dsimp only [List.map_cons] at k1 ⊢
            rw [hf] at k1
            have hty := (hK.2 _ _ (mTy_at cA (t := q.1) (by omega) (by omega))).1 q.2.length (fun j => mSh b x (vp_V q.2 j))
            dsimp only at hty
            rcases hc.1 with e1 | e1
            · rw [show mTagTy q.1 = .byte by rw [e1]; rfl] at hty
              exact W.bald hx hb (hR.arr hq (by omega)) hty (fun z => by cases z) (mArr_in _ _ hc.2) (mArr_rd (mSh b x) _ hv) rfl rfl hd k1
            · rw [show mTagTy q.1 = .boolean by rw [e1]; rfl] at hty
              exact W.zald hx hb (hR.arr hq (by omega)) hty (fun z => by cases z) (mArr_in _ _ hc.2) (mArr_rd (mSh b x) _ hv) rfl rfl hd k1
          · cases hs
        · cases hs
      · cases hs
    · cases hs
  · rename_i heq
    rw [heq] at hd hf
    split at hs
    · rename_i j a r
      split at hs
      · rename_i q hq
        split at hs
        · rename_i hc
          split at hs
          · rename_i v hv
            cases hs
            refine ⟨fun ls hl => ?_, rfl, rfl⟩
            have k1 := kk ls hl
            dsimp only [List.map_cons] at k1 ⊢
            rw [hf] at k1
            have hty := (hK.2 _ _ (mTy_at cA (t := q.1) (by omega) (by omega))).1 q.2.length (fun j => mSh b x (vp_V q.2 j))
            dsimp only at hty
            have href : (mTagTy q.1).isReference = true := by
              rcases (show q.1 = 53 ∨ q.1 = 54 ∨ q.1 = 55 by omega) with e1 | e1 | e1 <;> rw [e1] <;> rfl
            exact W.aald hx hb (hR.arr hq (by omega)) hty href (fun z => by cases z) (mArr_in _ _ hc.2) (mArr_rd (mSh b x) _ hv) rfl rfl hd k1
          · cases hs
        · cases hs
      · cases hs
    · cases hs
  · cases hs
set_option maxHeartbeats 4000000 in
theorem mF3_sim (hx : p.tables.exec = Jvm.exec) (hb : c.code = cc) (hK : va_K D mCl (mTys cA) s) (hR : mRel D cA b x h H) (hS : va_S (fun q => b ≤ q) s.heap H locs)
    (hd : decode cc (mPcAt cs i) = .ok (en.2.1, mLen en.2.1)) (hf : mPcAt cs (i + 1) = mPcAt cs i + mLen en.2.1)
    (hs : mF3 en i L st h = some g) (kk : ∀ (H1 : Heap) (locs1 : List Loc), mRel D cA b x g.2.2.2 H1 → va_S (fun q => b ≤ q) s.heap H1 locs1 → mFol p l e R s m args below meth c cs (mSh b x) Q H1 locs1 cells slots g) : mFol p l e R s m args below meth c cs (mSh b x) Q H locs cells slots (i, L, st, h) ∧ g.2.2.2.length = h.length ∧ g.2.1.length = L.length := by
  unfold mF3 at hs
  split at hs
  · rename_i heq
    rw [heq] at hd hf
    split at hs
    · rename_i v j a r
      split at hs
      · rename_i q hq
        split at hs
        · rename_i hc
          cases hs
          refine ⟨fun ls hl => ?_, by simp, rfl⟩
          dsimp only at kk hl ⊢
          have hty := (hK.2 _ _ (mTy_at cA (t := q.1) (by omega) (by omega))).1 q.2.length (fun j => mSh b x (vp_V q.2 j))
          dsimp only at hty
          rw [show mTagTy q.1 = .int by rw [hc.1]; rfl] at hty
          refine W.iast hx hb (hR.arr hq (by omega)) hty (fun z => by cases z) (mArr_in _ _ hc.2) rfl rfl hd fun H1 e1 e2 e3 => ?_
          have k1 := kk H1 _ (hR.put (by omega) (mIx_lt hc.2) (v := .int v) e1 e2 e3) (hS.put (k := j.toNatClampNeg) e2 e3 (Nat.le_add_right _ _)) ls hl
          dsimp only at k1
          rw [hf] at k1
          exact k1
        · cases hs
      · cases hs
    · cases hs
  · rename_i heq
    rw [heq] at hd hf
    split at hs
    · rename_i v j a r
      split at hs
      · rename_i q hq
        split at hs
        · rename_i hc
          cases hs
          refine ⟨fun ls hl => ?_, by simp, rfl⟩
          dsimp only at kk hl ⊢
          have hty := (hK.2 _ _ (mTy_at cA (t := q.1) (by omega) (by omega))).1 q.2.length (fun j => mSh b x (vp_V q.2 j))
          dsimp only at hty
          rw [show mTagTy q.1 = .byte by rw [hc.1]; rfl] at hty
          refine W.bast hx hb (hR.arr hq (by omega)) hty (fun z => by cases z) (mArr_in _ _ hc.2) rfl rfl hd fun H1 e1 e2 e3 => ?_
          have k1 := kk H1 _ (hR.put (by omega) (mIx_lt hc.2) (v := .int v.toInt8.toInt32) e1 e2 e3) (hS.put (k := j.toNatClampNeg) e2 e3 (Nat.le_add_right _ _)) ls hl
          dsimp only at k1
          rw [hf] at k1
          exact k1
        · split at hs
          · rename_i hc
            cases hs
            refine ⟨fun ls hl => ?_, by simp, rfl⟩
            dsimp only at kk hl ⊢
            have hty := (hK.2 _ _ (mTy_at cA (t := q.1) (by omega) (by omega))).1 q.2.length (fun j => mSh b x (vp_V q.2 j))
            dsimp only at hty
            rw [show mTagTy q.1 = .boolean by rw [hc.1]; rfl] at hty
            refine W.zast hx hb (hR.arr hq (by omega)) hty (fun z => by cases z) (mArr_in _ _ hc.2) rfl rfl hd fun H1 e1 e2 e3 => ?_
            have k1 := kk H1 _ (hR.put (by omega) (mIx_lt hc.2) (v := .int (v &&& 1)) e1 e2 e3) (hS.put (k := j.toNatClampNeg) e2 e3 (Nat.le_add_right _ _)) ls hl
            dsimp only at k1
            rw [hf] at k1
            exact k1
          · cases hs
      · cases hs
    · cases hs
  · rename_i heq
    rw [heq] at hd hf
    split at hs
    · rename_i w j a r
      split at hs
      · rename_i q hq
        split at hs
        · rename_i q2 hq2
          split at hs
          · rename_i hc
            obtain ⟨h1, h2, h3⟩ := hc
            cases hs
            refine ⟨fun ls hl => ?_, by simp, rfl⟩
            dsimp only at kk hl ⊢
            have hlt50 : q2.1 < 50 := by rw [h3]; unfold mElC; split <;> (try split) <;> omega
            obtain ⟨rr, g1, g2, cellV, c1, c2, c3, -⟩ := (hR.2 w q2 hq2).1 hlt50
            have hcls := (hK.1 q2.1 rr g1).2
            have hra := (hK.2 _ _ (mTy_at cA (t := q.1) (by omega) (by omega))).2
            have hobj : mTagTy q.1 = .object rr.1 := by
              rcases (show q.1 = 53 ∨ q.1 = 54 ∨ q.1 = 55 by omega) with e1 | e1 | e1 <;> rw [h3, e1] at g1 <;> cases g1 <;> rw [e1] <;> rfl
            dsimp only at hra
            rw [hobj] at hra
            obtain ⟨kA, comp, k1, k2, k3, -⟩ := hra
            have hcomp : comp = D.1 q2.1 := Option.some.inj (k3.symm.trans hcls.1)
            subst hcomp
            obtain ⟨kC, hkC, -⟩ := hcls.2
            refine W.aast hx hb (hR.arr hq (by omega)) (fun z z2 => by cases z2) (fun z => by cases z) k1 k2 rfl hkC ⟨fun z => mIx_ok h2 (Or.inl z), by rw [arrV_size]; exact mIx_lt h2⟩ c1 (fun z z2 => by rw [c3] at z2; cases z2) (by rw [c2]; exact hkC) (by rw [c2]; exact va_assign hcls) rfl rfl hd fun H1 e1 e2 e3 => ?_
            have k1 := kk H1 _ (hR.put (by omega) (mIx_lt h2) (v := .ref w) e1 e2 e3) (hS.put (k := j.toNatClampNeg) e2 e3 (Nat.le_add_right _ _)) ls hl
            dsimp only at k1
            rw [hf] at k1
            exact k1
          · cases hs
        · cases hs
      · cases hs
    · cases hs
  · cases hs
end MSR

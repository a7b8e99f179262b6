/-! making cells -/
noncomputable def mSl (h : mH) : Nat := (h.map (fun q => q.2.length)).sum
theorem mSl_app (h : mH) (q : mC) : mSl (h ++ [q]) = mSl h + q.2.length := by simp [mSl]
noncomputable def mAt : ArrayType → Option Nat
  | .int => some 50
  | .byte => some 51
  | .boolean => some 52
  | _ => none
noncomputable def mN1 (en : mE) (i : Nat) (L : mL) (st : List Value) (h : mH) : Option mG := match en.2.1 with
  | .newarray aty => match st with
    | .int n :: r => match mAt aty with
      | some t => if ¬ n < 0 ∧ n.toNatClampNeg ≤ 100000 then some (i + 1, L, .ref h.length :: r, h ++ [(t, List.replicate n.toNatClampNeg (.int 0))]) else none
      | none => none
    | _ => none
  | .anewarray _ => match st with
    | .int n :: r => if (¬ n < 0 ∧ n.toNatClampNeg ≤ 100000) ∧ 53 ≤ mTgt en 1 ∧ mTgt en 1 < 56 then some (i + 1, L, .ref h.length :: r, h ++ [(mTgt en 1, List.replicate n.toNatClampNeg .null)]) else none
    | _ => none
  | .new _ => match mCl[mTgt en 1]? with
    | some r0 => if mTgt en 1 < 50 then some (i + 1, L, .ref h.length :: st, h ++ [(mTgt en 1, (List.range r0.2.2).map (fun k => defaultValue (mFT (mTgt en 1) k)))]) else none
    | none => none
  | _ => none
noncomputable def mElN (t : Nat) : String := if t = 53 then "FirstLanding$Row" else if t = 54 then "FirstLanding$Text" else "FirstLanding$Embassy"
noncomputable def mLnkN (own : String) (en : mE) : Bool := match en.2.1 with
  | .newarray aty => mHas (mTgt en 4) (.arrayClass (newarray.typeOf aty))
  | .anewarray idx => mHas (mTgt en 4) (.classLink own idx (mElN (mTgt en 1)))
  | .new idx => match mCl[mTgt en 1]? with
    | some r => mHas (mTgt en 4) (.classLink own idx r.1) && (mHas (mTgt en 5) (.instantiable r.1 r.2.2) && mHas (mTgt en 6) (.initialized r.1))
    | none => false
  | _ => true
theorem mRep {n : Nat} {v : Value} (f : Value → Value) (hf : f .null = .null) (j : Nat) (hj : j < n) : f (vp_V (List.replicate n v) j) = f v := by
  unfold vp_V
  simp [hj]
section MSN
variable {p : Program} {l : Launch} {e : Env} {R : Room} {s : State} {m : MethodId} {args : Array Value} {below : List Frame} {meth : Method} {c : Code} {H : Heap} {locs : List Loc} {cells slots : Nat} {Q : State → Prop}
variable {cc : ByteArray} {cs : List mE} {b : Nat} {x : Nat → Nat} {xs : Nat → List Int32} {en : mE} {i : Nat} {L : mL} {st : List Value} {h : mH} {g : mG} {D : va_G} {cA : Nat → ClassId} {own : String} {ini : Bool}
theorem arrV_congr (ca : ClassId) (n : Nat) (f k : Nat → Value) (hfk : ∀ j, j < n → f j = k j) : arrV ca n f = arrV ca n k := by
  unfold arrV
  congr 1
  apply Array.ext
  · simp
  · intro j h1 h2
    simp at h1 ⊢
    exact hfk j h1
set_option maxHeartbeats 4000000 in
theorem mN1_sim (hx : p.tables.exec = Jvm.exec) (hb : c.code = cc) (hown : s.vm.findClass own = some m.cls) (hts : ∀ w ∈ mW, w.before args s = true) (hE : mEv D cA b x xs s) (hbs : b ≤ s.heap.size) (hR : mRel D cA b x h H) (hS : va_S (fun q => b ≤ q) s.heap H locs)
    (hd : decode cc (mPcAt cs i) = .ok (en.2.1, mLen en.2.1)) (hf : mPcAt cs (i + 1) = mPcAt cs i + mLen en.2.1) (hlk : mLnkN own en = true)
    (hs : mN1 en i L st h = some g) (hrc : cells + 1 ≤ R.cells) (hrs : slots + (mSl g.2.2.2 - mSl h) ≤ R.slots)
    (kk : ∀ (H1 : Heap), mRel D cA b x g.2.2.2 H1 → va_S (fun q => b ≤ q) s.heap H1 locs → mFol p l e R s m args below meth c cs (mSh b x) Q H1 locs (cells + 1) (slots + (mSl g.2.2.2 - mSl h)) g) : mFol p l e R s m args below meth c cs (mSh b x) Q H locs cells slots (i, L, st, h) ∧ g.2.2.2.length = h.length + 1 ∧ g.2.1.length = L.length ∧ mSl h ≤ mSl g.2.2.2 := by
  obtain ⟨hK, hT, hZ1, hZ2, hN, hAO⟩ := hE
  have fr : ∀ H1 : Heap, H1.size = H.size + 1 → (∀ q : Nat, q < H.size → H1[q]? = H[q]?) → va_S (fun q => b ≤ q) s.heap H1 locs := fun H1 z o => ⟨Nat.le_trans hS.1 (by omega), fun q h1 h2 => (o q (Nat.lt_of_lt_of_le h1 hS.1)).trans (hS.2.1 q h1 h2), hS.2.2⟩
  unfold mN1 at hs
  unfold mLnkN at hlk
  split at hs
  · rename_i aty heq
    rw [heq] at hd hf hlk
    split at hs
    · rename_i n r
      split at hs
      · rename_i t ht
        split at hs
        · rename_i hn
          cases hs
          dsimp only at hrs kk ⊢
          rw [mSl_app] at hrs kk ⊢
          simp only [List.length_replicate] at hrs kk ⊢
          rw [show mSl h + n.toNatClampNeg - mSl h = n.toNatClampNeg by omega] at hrs kk
          refine ⟨fun ls hl => ?_, by simp, by simp, by omega⟩
          dsimp only [List.map_cons, mSh] at hl ⊢
          have hcb : componentBytes (newarray.typeOf aty) ≤ 8 := by cases aty <;> decide
          refine va_newaK (n := n) (N := n.toNatClampNeg) hx hb (hts _ (mHas_ok hlk)) rfl hd rfl hn.1 rfl (Nat.le_trans (Nat.mul_le_mul hn.2 hcb) (by decide)) hrc hrs (h := b + h.length) hR.1 fun H1 ca e1 e2 e3 e4 e5 => ?_
          have ht50 : 50 ≤ t ∧ t < 56 ∧ mTagTy t = newarray.typeOf aty := by cases aty <;> cases ht <;> exact ⟨by decide, by decide, rfl⟩
          have hra := (hK.2 _ _ (mTy_at cA ht50.1 ht50.2.1)).2
          dsimp only at hra
          rw [ht50.2.2] at hra
          have hca : cA t = ca := by
            have hz : s.vm.findClass ("[" ++ (newarray.typeOf aty).toString) = some (cA t) := by cases aty <;> first | exact hra | cases ht
            exact Option.some.inj (hz.symm.trans e5)
          have z1 : H1.size = H.size + 1 := by rw [e2, hR.1]
          have o1 : ∀ q : Nat, q < H.size → H1[q]? = H[q]? := fun q hq => e3 q (by rw [← hR.1]; exact hq)
          have k1 := kk H1 (hR.push z1 o1 ⟨fun z => absurd z (by dsimp only; omega), fun _ => by
            rw [e1]
            dsimp only
            rw [List.length_replicate, hca]
            refine congrArg some (arrV_congr _ _ _ _ fun j hj => ?_)
            rw [mRep (mSh b x) rfl j hj]
            cases aty <;> first | rfl | cases ht⟩) (fr H1 z1 o1) ls hl
          dsimp only [List.map_cons, mSh] at k1
          rw [hf] at k1
          exact k1
        · cases hs
      · cases hs
    · cases hs
  · rename_i idx heq
    rw [heq] at hd hf hlk
    split at hs
    · rename_i n r
      split at hs
      · rename_i hn
        obtain ⟨hn, ht1, ht2⟩ := hn
        cases hs
        dsimp only at hrs kk ⊢
        rw [mSl_app] at hrs kk ⊢
        simp only [List.length_replicate] at hrs kk ⊢
        rw [show mSl h + n.toNatClampNeg - mSl h = n.toNatClampNeg by omega] at hrs kk
        refine ⟨fun ls hl => ?_, by simp, by simp, by omega⟩
        dsimp only [List.map_cons, mSh] at hl ⊢
        have hel : va_AO (mElN (mTgt en 1)) s ∧ mTagTy (mTgt en 1) = .object (mElN (mTgt en 1)) := by
          rcases (show mTgt en 1 = 53 ∨ mTgt en 1 = 54 ∨ mTgt en 1 = 55 by omega) with e1 | e1 | e1 <;> rw [e1]
          · exact ⟨hAO.1, rfl⟩
          · exact ⟨hAO.2.1, rfl⟩
          · exact ⟨hAO.2.2, rfl⟩
        refine W.anew (n := n) hx hb hown (hts _ (mHas_ok hlk)) (va_AO.use hel.1) rfl hd rfl hn.1 (Nat.le_trans (Nat.mul_le_mul_right 4 hn.2) (by decide)) hrc hrs fun ca kA comp f1 f2 f3 f4 => ?_
        generalize hH1 : H.push ({ cls := ca, slots := Array.replicate n.toNatClampNeg .null, vm := .none } : Cell) = H1
        have z1 : H1.size = H.size + 1 := by rw [← hH1, Array.size_push]
        have e1 : H1[H.size]? = some (arrV ca n.toNatClampNeg (fun _ => .null)) := by rw [← hH1, Array.getElem?_push_size, ← arrV_new]
        have o1 : ∀ q : Nat, q < H.size → H1[q]? = H[q]? := fun q hq => by rw [← hH1, Array.getElem?_push, if_neg (Nat.ne_of_lt hq)]
        have hra := (hK.2 _ _ (mTy_at cA (t := mTgt en 1) (by omega) (by omega))).2
        dsimp only at hra
        rw [hel.2] at hra
        obtain ⟨kA2, comp2, -, -, -, e5⟩ := hra
        have hca : cA (mTgt en 1) = ca := Option.some.inj (e5.symm.trans f1)
        rw [hR.1] at e1
        have k1 := kk H1 (hR.push z1 o1 ⟨fun z => absurd z (by dsimp only; omega), fun _ => by
          rw [e1]
          dsimp only
          rw [List.length_replicate, hca]
          refine congrArg some (arrV_congr _ _ _ _ fun j hj => ?_)
          rw [mRep (mSh b x) rfl j hj]
          rfl⟩) (fr H1 z1 o1) ls hl
        dsimp only [List.map_cons, mSh] at k1
        rw [hf] at k1
        rw [hR.1]
        exact k1
      · cases hs
    · cases hs
  · rename_i idx heq
    rw [heq] at hd hf hlk
    split at hs
    · rename_i r0 hr0
      split at hs
      · rename_i ht
        cases hs
        dsimp only at hrs kk ⊢
        rw [mSl_app] at hrs kk ⊢
        simp only [List.length_map, List.length_range] at hrs kk ⊢
        rw [show mSl h + r0.2.2 - mSl h = r0.2.2 by omega] at hrs kk
        refine ⟨fun ls hl => ?_, by simp, by simp, by omega⟩
        dsimp only at hl hlk ⊢
        rw [hr0] at hlk
        dsimp only at hlk
        simp only [Bool.and_eq_true] at hlk
        obtain ⟨l1, l2, l3⟩ := hlk
        obtain ⟨o1, o2, o3⟩ := mCl_ok _ _ hr0
        obtain ⟨hS1, hfc, kC0, hkC0, hkind⟩ := hK.1 (mTgt en 1) _ hr0
        refine W.newcK hx hb hown (hts _ (mHas_ok l1)) (hts _ (mHas_ok l2)) (hts _ (mHas_ok l3)) rfl hd hrc hrs hfc (h := b + h.length) hR.1 fun H1 kC hkC e1 e2 e3 => ?_
        have z1 : H1.size = H.size + 1 := by rw [e2, hR.1]
        have q1 : ∀ q : Nat, q < H.size → H1[q]? = H[q]? := fun q hq => e3 q (by rw [← hR.1]; exact hq)
        have hborn := u_born (mFT (mTgt en 1)) hts o1 (hK.1 (mTgt en 1) _ hr0) hkC e1 o2
        have k1 := kk H1 (hR.push z1 q1 ⟨fun _ => ⟨r0, hr0, by simp, hborn.to (fun j hj => by
          unfold vp_V
          rw [List.getD_eq_getElem?_getD, List.getElem?_map, List.getElem?_range hj]
          show defaultValue (mFT (mTgt en 1) j) = mSh b x (defaultValue (mFT (mTgt en 1) j))
          cases mFT (mTgt en 1) j <;> rfl)⟩, fun z => absurd ht z⟩) (fr H1 z1 q1) ls hl
        dsimp only [List.map_cons, mSh] at k1
        rw [hf] at k1
        exact k1
      · cases hs
    · cases hs
  · cases hs
end MSN

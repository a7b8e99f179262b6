/-! the run of a body -/
section MSG
variable {p : Program} {l : Launch} {e : Env} {R : Room} {s : State} {m : MethodId} {args : Array Value} {below : List Frame} {meth : Method} {c : Code} {H : Heap} {locs : List Loc} {cells slots : Nat} {Q : State → Prop}
variable {cc : ByteArray} {cs : List mE} {b : Nat} {x : Nat → Nat} {xs : Nat → List Int32} {en : mE} {i : Nat} {L : mL} {st : List Value} {h : mH} {g : mG} {D : va_G} {cA : Nat → ClassId} {own : String} {ini : Bool} {tab : List mM} {call : Nat → List Value → mH → Option mR} {d : Nat}
theorem mCat_sum (rest : List Value) : ((rest.map (mSh b x)).map fun v => v.category).sum = (rest.map (fun v => v.category)).sum := by
  rw [List.map_map]
  congr 1
  exact List.map_congr_left (fun v _ => mSh_cat b x v)
set_option maxHeartbeats 4000000 in
theorem mG2_sim (hx : p.tables.exec = Jvm.exec) (hb : c.code = cc) (hml : c.maxLocals = L.length) (hown : s.vm.findClass own = some m.cls) (hts : ∀ w ∈ mW, w.before args s = true) (hE : mEv D cA b x xs s) (hR : mRel D cA b x h H) (hS : va_S (fun q => b ≤ q) s.heap H locs)
    (hd : decode cc (mPcAt cs i) = .ok (en.2.1, mLen en.2.1)) (hf : mPcAt cs (i + 1) = mPcAt cs i + mLen en.2.1) (hlk : mLnkC tab own en = true)
    (hRf : d + 1 ≤ R.frames ∧ 60 * (d + 1) ≤ R.locals)
    (hs : mG2 en i L st h = some g)
    (kk : ∀ (H1 : Heap) (locs1 : List Loc), mRel D cA b x g.2.2.2 H1 → va_S (fun q => b ≤ q) s.heap H1 locs1 → mFol p l e R s m args below meth c cs (mSh b x) Q H1 locs1 cells slots g) : mFol p l e R s m args below meth c cs (mSh b x) Q H locs cells slots (i, L, st, h) ∧ g.2.2.2.length = h.length ∧ g.2.1.length = L.length ∧ mSl g.2.2.2 = mSl h := by
  unfold mG2 at hs
  split at hs
  · rename_i idx heq
    rw [heq] at hd hf
    split at hs
    · rename_i a r
      split at hs
      · rename_i hc
        cases hs
        refine ⟨fun ls hl => ?_, rfl, rfl, rfl⟩
        have k1 := kk H locs hR hS ls hl
        dsimp only [List.map_cons, mSh] at k1 hl ⊢
        rw [hf] at k1
        unfold mLnkC at hlk
        rw [heq] at hlk
        dsimp only at hlk
        rw [if_neg (by omega)] at hlk
        simp only [Bool.and_eq_true] at hlk
        obtain ⟨l1, l2, l3⟩ := hlk
        refine W.objInit hx hb hown (hts _ (mHas_ok l1)) (hts _ (mHas_ok l2)) (hts _ (mHas_ok l3)) rfl (by rw [hml]; exact hl.1) rfl hd (by omega) ?_ k1
        show 2 * 0 + ((r.map (mSh b x)).map fun v => v.category).sum + 12 ≤ R.locals
        rw [mCat_sum]
        omega
      · cases hs
    · cases hs
  · rename_i idx heq
    rw [heq] at hd hf
    split at hs
    · rename_i n dp a1 sp a0 r
      split at hs
      · rename_i q0 hq0
        split at hs
        · rename_i q1 hq1
          split at hs
          · rename_i hc
            obtain ⟨m2, c2, t0, t1, h1, h2, h3, h4, h5, hI⟩ := hc
            cases hs
            have hcl : (mCpy q0.2 q1.2 sp.toNatClampNeg dp.toNatClampNeg n.toNatClampNeg).length = q1.2.length := by simp [mCpy]
            have hsl : mSl (h.set a1 (q1.1, mCpy q0.2 q1.2 sp.toNatClampNeg dp.toNatClampNeg n.toNatClampNeg)) = mSl h := by
              unfold mSl
              congr 1
              rw [List.map_set]
              apply List.ext_getElem?
              intro k
              by_cases hk : k = a1
              · subst hk
                rw [List.getElem?_set]
                simp only [if_true, List.length_map]
                rw [List.getElem?_map, hq1, if_pos (List.getElem?_eq_some_iff.mp hq1).1]
                simp [hcl]
              · rw [List.getElem?_set_ne (Ne.symm hk)]
            refine ⟨fun ls hl => ?_, by simp, rfl, hsl⟩
            dsimp only at hl kk ⊢
            unfold mLnkC at hlk
            rw [heq] at hlk
            dsimp only at hlk
            rw [if_neg (by omega)] at hlk
            simp only [Bool.and_eq_true] at hlk
            obtain ⟨l1, l2, l3, l4⟩ := hlk
            have nn : ∀ z : Int32, ¬ z < 0 → z.toInt = (z.toNatClampNeg : Int) := by
              intro z hz
              have hz0 : (0 : Int) ≤ z.toInt := by
                have := Int32.not_lt.mp hz
                simpa using Int32.le_iff_toInt_le.mp this
              show z.toInt = ((z.toInt.toNat : Nat) : Int)
              omega
            intro T hT X
            have hc0 := hR.arr hq0 (by omega)
            have hc1 := hR.arr hq1 (by omega)
            rw [t0] at hc0
            rw [t1] at hc1
            have hAr := (hE.1.2 0 (cA 50, .int) rfl).1
            obtain ⟨-, k0, hk0, cm0, hkk0⟩ := hAr q0.2.length (fun j => mSh b x (vp_V q0.2 j))
            obtain ⟨-, k1, hk1, cm1, hkk1⟩ := hAr q1.2.length (fun j => mSh b x (vp_V q1.2 j))
            obtain ⟨vm', X', step⟩ := X.arraycopy hx hown (hts _ (mHas_ok l1)) (hts _ (mHas_ok l2)) (hts _ (mHas_ok l3)) (hts _ (mHas_ok l4)) (src := b + a0) (dst := b + a1) (srcPos := sp) (destPos := dp) (n := n) (by rw [hT]; exact hc0) (by rw [hT]; exact hc1)
              (fun _ h => by cases h) (fun _ h => by cases h) (fun h => by cases h) (fun h => by cases h) hk0 hk1 hkk0 hkk1 rfl h1 h2 h3
              (by rw [nn sp h1, nn n h3, arrV_size]; omega)
              (by rw [nn dp h2, nn n h3, arrV_size]; omega)
              (fun vm₁ _ i hi => by
                have hlt : sp.toNatClampNeg + i < q0.2.length := by omega
                have e : (arrV (cA 50) q0.2.length (fun j => mSh b x (vp_V q0.2 j))).slots.getD (sp.toNatClampNeg + i) .null = mSh b x (vp_V q0.2 (sp.toNatClampNeg + i)) := by
                  rw [Array.getD_eq_getD_getElem?, arrV_read _ _ hlt]
                  rfl
                obtain ⟨z, hz⟩ : ∃ z, vp_V q0.2 (sp.toNatClampNeg + i) = .int z := by
                  have hm : vp_V q0.2 (sp.toNatClampNeg + i) ∈ q0.2 := by
                    unfold vp_V
                    rw [List.getD_eq_getElem?_getD, List.getElem?_eq_getElem hlt]
                    exact List.getElem_mem hlt
                  exact mIsI_spec (List.all_eq_true.mp hI _ hm)
                rw [e, hz]
                exact ⟨rfl, trivial⟩)
              (g := F0 m (mPcAt cs i) ls ((Value.int n :: .int dp :: .ref a1 :: .int sp :: .ref a0 :: r).map (mSh b x))) rfl (by rw [hml]; exact hl.1) (rest := r.map (mSh b x)) rfl (by rw [hb]; exact hd) (by omega) (by
                show 2 * 0 + ((r.map (mSh b x)).map fun v => v.category).sum + (nativeFrameWords "java/lang/System" "arraycopy" 5 + 11) ≤ R.locals
                rw [mCat_sum]
                have : nativeFrameWords "java/lang/System" "arraycopy" 5 = 7 := by decide
                omega)
            have e1 : copied (arrV (cA 50) q0.2.length (fun j => mSh b x (vp_V q0.2 j))) (arrV (cA 50) q1.2.length (fun j => mSh b x (vp_V q1.2 j))) sp dp n = arrV (cA 50) q1.2.length (fun j => mSh b x (va_cpy (vp_V q0.2) (vp_V q1.2) sp.toNatClampNeg dp.toNatClampNeg n.toNatClampNeg j)) := va_copied (mSh b x) (cA 50) (cA 50) (vp_V q0.2) (vp_V q1.2) h4
            rw [e1] at X' step
            have hlt : b + a1 < H.size := (Array.getElem?_eq_some_iff.mp hc1).1
            generalize hcell : arrV (cA 50) q1.2.length (fun j => mSh b x (va_cpy (vp_V q0.2) (vp_V q1.2) sp.toNatClampNeg dp.toNatClampNeg n.toNatClampNeg j)) = cell at X' step
            have hheap : ((T.setVm vm').setCell (b + a1) cell).heap = H.setIfInBounds (b + a1) cell := by rw [← hT]; rfl
            have oq : ∀ q : Nat, q ≠ b + a1 → (H.setIfInBounds (b + a1) cell)[q]? = H[q]? := fun q hq => by simp [Array.getElem?_setIfInBounds, Ne.symm hq]
            have hrel : mRel D cA b x (h.set a1 (q1.1, mCpy q0.2 q1.2 sp.toNatClampNeg dp.toNatClampNeg n.toNatClampNeg)) (H.setIfInBounds (b + a1) cell) := by
              refine hR.set (by simp) oq ⟨fun z => absurd z (by show ¬ q1.1 < 50; omega), fun _ => ?_⟩
              dsimp only
              rw [hcl, t1]
              rw [show (H.setIfInBounds (b + a1) cell)[b + a1]? = some cell by simp [Array.getElem?_setIfInBounds, hlt], ← hcell]
              refine congrArg some (arrV_congr _ _ _ _ fun j hj => ?_)
              congr 1
              unfold mCpy
              rw [show vp_V ((List.range q1.2.length).map (fun k => va_cpy (vp_V q0.2) (vp_V q1.2) sp.toNatClampNeg dp.toNatClampNeg n.toNatClampNeg k)) j = va_cpy (vp_V q0.2) (vp_V q1.2) sp.toNatClampNeg dp.toNatClampNeg n.toNatClampNeg j by
                rw [show ∀ l : List Value, vp_V l j = l.getD j .null from fun _ => rfl, List.getD_eq_getElem?_getD, List.getElem?_map, List.getElem?_range hj]
                rfl]
            have fr : ∀ LL : List Loc, (∀ q ∈ LL, b ≤ q.base) → va_S (fun q => b ≤ q) s.heap (H.setIfInBounds (b + a1) cell) (locs ++ LL) := fun LL hLL => ⟨by simp; exact hS.1, fun q g1 g2 => by
                rw [oq q (fun e => g2 (by show b ≤ q; omega))]
                exact hS.2.1 q g1 g2, fun q hq => by
                rcases List.mem_append.mp hq with h | h
                · exact hS.2.2 q h
                · exact hLL q h⟩
            obtain ⟨t, u1, u2⟩ := kk _ _ hrel (fr _ (fun q hq => by
              obtain ⟨z, -, hz⟩ := List.mem_map.mp hq
              rw [← hz]
              exact Nat.le_add_right _ _)) ls hl _ hheap X'
            dsimp only at u1
            rw [hf] at u1
            exact ⟨t, step t u1, u2⟩
          · cases hs
        · cases hs
      · cases hs
    · cases hs
  · cases hs
end MSG

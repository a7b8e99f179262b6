/-! the heap of the small machine, and the machine's -/
noncomputable def mOk (D : va_G) (cA : Nat → ClassId) (f : Value → Value) (a : Nat) (q : mC) (H : Heap) : Prop :=
  (q.1 < 50 → ∃ r : vw_C, mCl[q.1]? = some r ∧ q.2.length = r.2.2 ∧ t_OB a (D.1 q.1) r.2.2 (D.2 q.1) H (fun k => f (vp_V q.2 k))) ∧
  (¬ q.1 < 50 → H[a]? = some (arrV (cA q.1) q.2.length (fun j => f (vp_V q.2 j))))
noncomputable def mRel (D : va_G) (cA : Nat → ClassId) (b : Nat) (x : Nat → Nat) (h : mH) (H : Heap) : Prop := H.size = b + h.length ∧ ∀ (k : Nat) (q : mC), h[k]? = some q → mOk D cA (mSh b x) (b + k) q H
theorem mOk.kept {D : va_G} {cA : Nat → ClassId} {f : Value → Value} {a : Nat} {q : mC} {H H1 : Heap} (h : mOk D cA f a q H) (e : H1[a]? = H[a]?) : mOk D cA f a q H1 := by
  refine ⟨fun hq => ?_, fun hq => ?_⟩
  · obtain ⟨r, h1, h2, h3⟩ := h.1 hq
    exact ⟨r, h1, h2, h3.kept e⟩
  · rw [e]; exact h.2 hq
theorem mRel.set {D : va_G} {cA : Nat → ClassId} {b : Nat} {x : Nat → Nat} {h : mH} {H H1 : Heap} {k : Nat} {q : mC} (hR : mRel D cA b x h H) (z : H1.size = H.size) (o : ∀ j : Nat, j ≠ b + k → H1[j]? = H[j]?) (hk : mOk D cA (mSh b x) (b + k) q H1) : mRel D cA b x (h.set k q) H1 := by
  refine ⟨by rw [z, hR.1, List.length_set], fun j p hj => ?_⟩
  by_cases e : j = k
  · subst e
    rw [List.getElem?_set] at hj
    simp only [if_true] at hj
    split at hj
    · cases hj; exact hk
    · cases hj
  · rw [List.getElem?_set_ne (Ne.symm e)] at hj
    exact (hR.2 j p hj).kept (o _ (by omega))
theorem mRel.push {D : va_G} {cA : Nat → ClassId} {b : Nat} {x : Nat → Nat} {h : mH} {H H1 : Heap} {q : mC} (hR : mRel D cA b x h H) (z : H1.size = H.size + 1) (o : ∀ j : Nat, j < H.size → H1[j]? = H[j]?) (hk : mOk D cA (mSh b x) (b + h.length) q H1) : mRel D cA b x (h ++ [q]) H1 := by
  refine ⟨by rw [z, hR.1]; simp; omega, fun j p hj => ?_⟩
  by_cases e : j < h.length
  · rw [List.getElem?_append_left e] at hj
    exact (hR.2 j p hj).kept (o _ (by rw [hR.1]; omega))
  · rw [List.getElem?_append_right (by omega)] at hj
    have h1 : j - h.length < 1 := (List.getElem?_eq_some_iff.mp hj).1
    have h2 : j = h.length := by omega
    subst h2
    rw [Nat.sub_self] at hj
    cases hj
    exact hk
theorem mV_set {vs : List Value} {k : Nat} (hk : k < vs.length) (f : Value → Value) (v : Value) (j : Nat) : updV (fun i => f (vp_V vs i)) k (f v) j = f (vp_V (vs.set k v) j) := by
  unfold updV vp_V
  by_cases e : j = k
  · subst e
    simp [hk]
  · simp [e, List.getElem?_set_ne (Ne.symm e)]
theorem mV_map {vs : List Value} {f : Value → Value} {k : Nat} (hk : k < vs.length) : f (vp_V vs k) = vp_V (vs.map f) k := by
  unfold vp_V
  simp [hk]
noncomputable def mFit (ty : FieldType) (v : Value) : Bool := match ty with
  | .int => mIsI v
  | .long => mIsJ v
  | .object _ => mIsA v
  | .array _ => mIsA v
  | _ => false
theorem mFit_ok {ty : FieldType} {v : Value} (b : Nat) (x : Nat → Nat) (h : mFit ty v = true) : narrow ty (mSh b x v) = mSh b x v ∧ fits ty (mSh b x v) = true := by
  cases ty <;> cases v <;> first | exact ⟨rfl, rfl⟩ | cases h
noncomputable def mHas (wi : Nat) (w : Cond) : Bool := decide (qzgo lw_tbl wi = some w) && goodWord w
theorem mHas_ok {wi : Nat} {w : Cond} (h : mHas wi w = true) : w ∈ mW := by
  unfold mHas at h
  rw [Bool.and_eq_true] at h
  exact mW_of wi ((qzgo_eq _ _).symm.trans (of_decide_eq_true h.1)) h.2
noncomputable def mNest : Cond → Bool
  | .fieldLinkNest .. => true
  | .methodLinkNest .. => true
  | _ => false
/-- words on nest mates: carried beside the others -/
noncomputable def mWN : List Cond := lw_tbl.filter mNest
noncomputable def mHasN (wi : Nat) (w : Cond) : Bool := decide (qzgo lw_tbl wi = some w) && mNest w
theorem mHasN_ok {wi : Nat} {w : Cond} (h : mHasN wi w = true) : w ∈ mWN := by
  unfold mHasN at h
  rw [Bool.and_eq_true] at h
  exact List.mem_filter.mpr ⟨List.mem_of_getElem? ((qzgo_eq _ _).symm.trans (of_decide_eq_true h.1)), h.2⟩
theorem mWN_warm {s U : State} (hW : s.WarmedH U.vm) (h : ∀ w ∈ mWN, va_Nw w s) : ∀ w ∈ mWN, va_Nw w U := by
  intro w hw
  have h1 := h w hw
  have h2 := (List.mem_filter.mp hw).2
  cases w <;> first | exact va_Nw.warmF hW h1 | exact va_Nw.warmM hW h1 | cases h2
theorem mWN_same {s U : State} (hv : s.vm = U.vm) (h : ∀ w ∈ mWN, va_Nw w s) : ∀ w ∈ mWN, va_Nw w U := by
  intro w hw
  have h1 := h w hw
  have h2 := (List.mem_filter.mp hw).2
  cases w <;> first | exact va_tabs rfl hv h1 | cases h2
/-- fields -/
noncomputable def mF1 (en : mE) (i : Nat) (L : mL) (st : List Value) (h : mH) : Option mG := match en.2.1 with
  | .getfield _ => match st with
    | .ref a :: r => match h[a]? with
      | some q => if q.1 = mTgt en 1 then (match q.2[mTgt en 2]? with
        | some v => some (i + 1, L, v :: r, h)
        | none => none) else none
      | none => none
    | _ => none
  | .putfield _ => match st with
    | v :: .ref a :: r => match h[a]? with
      | some q => if q.1 = mTgt en 1 ∧ mTgt en 2 < q.2.length ∧ mFit (mFT q.1 (mTgt en 2)) v = true then some (i + 1, L, r, h.set a (q.1, q.2.set (mTgt en 2) v)) else none
      | none => none
    | _ => none
  | _ => none
noncomputable def mLnkF (own : String) (ini : Bool) (en : mE) : Bool := match en.2.1 with
  | .getfield idx => match mCl[mTgt en 1]? with
    | some r => decide (mTgt en 1 < 50) && (decide (mTgt en 2 < r.2.2) && (decide ((r.2.1 (mTgt en 2)).1 = r.1) && (if mTgt en 3 = 0 then mHas (mTgt en 4) (.fieldLink own idx r.1 (r.2.1 (mTgt en 2)).2.1 (r.2.1 (mTgt en 2)).2.2.1) else mHasN (mTgt en 4) (.fieldLinkNest own idx r.1 (r.2.1 (mTgt en 2)).2.1 (r.2.1 (mTgt en 2)).2.2.1 "FirstLanding"))))
    | none => false
  | .putfield idx => match mCl[mTgt en 1]? with
    | some r => decide (mTgt en 1 < 50) && (decide (mTgt en 2 < r.2.2) && (decide ((r.2.1 (mTgt en 2)).1 = r.1) && (if (r.2.1 (mTgt en 2)).2.2.2 = true then decide (ini = true ∧ r.1 = own) && mHas (mTgt en 4) (.fieldLink own idx r.1 (r.2.1 (mTgt en 2)).2.1 (r.2.1 (mTgt en 2)).2.2.1) else if mTgt en 3 = 0 then mHas (mTgt en 4) (.fieldLink own idx r.1 (r.2.1 (mTgt en 2)).2.1 (r.2.1 (mTgt en 2)).2.2.1) else mHasN (mTgt en 4) (.fieldLinkNest own idx r.1 (r.2.1 (mTgt en 2)).2.1 (r.2.1 (mTgt en 2)).2.2.1 "FirstLanding"))))
    | none => false
  | _ => true
section MSF
variable {p : Program} {l : Launch} {e : Env} {R : Room} {s : State} {m : MethodId} {args : Array Value} {below : List Frame} {meth : Method} {c : Code} {H : Heap} {locs : List Loc} {cells slots : Nat} {Q : State → Prop}
variable {cc : ByteArray} {cs : List mE} {b : Nat} {x : Nat → Nat} {en : mE} {i : Nat} {L : mL} {st : List Value} {h : mH} {g : mG} {D : va_G} {cA : Nat → ClassId} {own : String} {ini : Bool}
set_option maxHeartbeats 4000000 in
theorem mF1_sim (hx : p.tables.exec = Jvm.exec) (hb : c.code = cc) (hown : s.vm.findClass own = some m.cls) (hin : ini = true → meth.name = "<init>") (hts : ∀ w ∈ mW, w.before args s = true) (hK : va_K D mCl (mTys cA) s) (hN : ∀ w ∈ mWN, va_Nw w s) (hR : mRel D cA b x h H) (hS : va_S (fun q => b ≤ q) s.heap H locs)
    (hd : decode cc (mPcAt cs i) = .ok (en.2.1, mLen en.2.1)) (hf : mPcAt cs (i + 1) = mPcAt cs i + mLen en.2.1) (hlk : mLnkF own ini en = true)
    (hs : mF1 en i L st h = some g) (kk : ∀ (H1 : Heap) (locs1 : List Loc), mRel D cA b x g.2.2.2 H1 → va_S (fun q => b ≤ q) s.heap H1 locs1 → mFol p l e R s m args below meth c cs (mSh b x) Q H1 locs1 cells slots g) : mFol p l e R s m args below meth c cs (mSh b x) Q H locs cells slots (i, L, st, h) ∧ g.2.2.2.length = h.length ∧ g.2.1.length = L.length := by
  unfold mF1 at hs
  split at hs
  · rename_i idx heq
    split at hs
    · rename_i a r
      split at hs
      · rename_i q hq
        split at hs
        · rename_i hc
          split at hs
          · rename_i v hv
            cases hs
            refine ⟨fun ls hl => ?_, rfl, rfl⟩
            have k1 := kk H locs hR hS ls hl
            dsimp only [List.map_cons, mSh] at k1 ⊢
            unfold mLnkF at hlk
            rw [heq] at hlk hd hf
            dsimp only at hlk
            rw [hf] at k1
            split at hlk
            · rename_i rr hrr
              simp only [Bool.and_eq_true, decide_eq_true_eq] at hlk
              obtain ⟨l0, l1, l2, l3⟩ := hlk
              obtain ⟨C, T, N⟩ := rr
              dsimp only at l1 l2 l3
              rw [← hc] at hrr l0
              obtain ⟨r1, g1, g2, g3⟩ := (hR.2 a q hq).1 l0
              cases hrr.symm.trans g1
              dsimp only at g2 g3
              have hk : mTgt en 2 < q.2.length := by rw [g2]; exact l1
              have hP : va_P D mCl [(b + a, .inr (q.1, q.2.map (mSh b x)))] H := by
                intro k z hz
                have hz1 : k < 1 := (List.getElem?_eq_some_iff.mp hz).1
                have hz2 : k = 0 := by omega
                subst hz2
                cases hz
                exact ⟨_, g1, g3.to (fun j hj => mV_map (by rw [g2]; exact hj))⟩
              have hvv : (q.2.map (mSh b x))[mTgt en 2]? = some (mSh b x v) := by rw [List.getElem?_map, hv]; rfl
              split at l3
              · refine va_get (own := own) (ref := C) (C := C) (T := T) (N := N) (ci := q.1) hx hb hts (mCl_ok _ _ g1).1 hown hK hP 0 rfl g1 (mTgt en 2) l1 (hts _ (mHas_ok l3)) (fun z hz => by rw [← hz, l2]) hvv hd ?_
                exact k1
              · refine va_getN (own := own) (ref := C) (C := C) (T := T) (N := N) (ci := q.1) hx hb hts (mCl_ok _ _ g1).1 hown hK hP 0 rfl g1 (mTgt en 2) l1 (va_Nw.use rfl (hN _ (mHasN_ok l3))) (fun z hz => by rw [← hz, l2]) hvv hd ?_
                exact k1
            · cases hlk
          · cases hs
        · cases hs
      · cases hs
    · cases hs
  · rename_i idx heq
    split at hs
    · rename_i v a r
      split at hs
      · rename_i q hq
        split at hs
        · rename_i hc
          obtain ⟨hc, hkl, hft⟩ := hc
          cases hs
          refine ⟨fun ls hl => ?_, by simp, rfl⟩
          dsimp only at kk hl ⊢
          show W p l e R s m args below meth c H locs cells slots Q (F0 m (mPcAt cs i) ls (mSh b x v :: .ref (b + a) :: r.map (mSh b x)))
          unfold mLnkF at hlk
          rw [heq] at hlk hd hf
          dsimp only at hlk
          split at hlk
          · rename_i rr hrr
            simp only [Bool.and_eq_true, decide_eq_true_eq] at hlk
            obtain ⟨l0, l1, l2, l3⟩ := hlk
            obtain ⟨C, T, N⟩ := rr
            dsimp only at l1 l2 l3
            rw [← hc] at hrr l0
            obtain ⟨r1, g1, g2, cell, q1, q2, q3, q4⟩ := (hR.2 a q hq).1 l0
            cases hrr.symm.trans g1
            dsimp only at g2 q4
            obtain ⟨o1, o2, o3⟩ := mCl_ok _ _ g1
            dsimp only at o1 o2 o3
            have hap := va_apart (own := own) hts o1 (mFT q.1) o2 o3 hK g1
            obtain ⟨hS1, hfc, kC, hkC, hkind⟩ := hK.1 q.1 _ g1
            obtain ⟨cf, kf, fi, fd, hi, hsl⟩ := hS1 (mTgt en 2) l1
            have hst := (u_facts hfc hkC (u_lays hts o1 l1) hi).1
            obtain ⟨n1, n2⟩ := mFit_ok b x hft
            have hi2 : s.fieldFound? C (T (mTgt en 2)).2.1 (T (mTgt en 2)).2.2.1 = some (cf, kf, fi, fd) := by rw [← l2]; exact hi
            have fin : ∀ H1 : Heap, H1[b + a]? = some (cell.setSlot fd.slot (mSh b x v)) → H1.size = H.size → (∀ j : Nat, j ≠ b + a → H1[j]? = H[j]?) → W p l e R s m args below meth c H1 (locs ++ [⟨b + a, fd.slot⟩]) cells slots Q (F0 m (mPcAt cs i + 3) ls (r.map (mSh b x))) := by
              intro H1 e1 e2 e3
              have k1 := kk H1 (locs ++ [⟨b + a, fd.slot⟩]) (hR.set e2 e3 ⟨fun _ => ⟨_, g1, by simp [g2], by
                refine t_OB.to (V := updV (fun k => mSh b x (vp_V q.2 k)) (mTgt en 2) (mSh b x v)) ⟨_, e1, q2, q3, ?_⟩ (fun j _ => mV_set hkl (mSh b x) v j)
                rw [hsl]
                exact t_set q4 hap l1 (mSh b x v)⟩, fun z => absurd l0 z⟩) (hS.put e2 e3 (Nat.le_add_right _ _)) ls hl
              dsimp only at k1
              rw [hf] at k1
              exact k1
            have hlt : fd.slot < cell.slots.size := by rw [hsl]; exact k2_hasslot (q4 (mTgt en 2) l1)
            split at l3
            · rename_i hfin
              rw [Bool.and_eq_true, decide_eq_true_eq] at l3
              obtain ⟨⟨l4, l5⟩, l6⟩ := l3
              have hlay := hts _ (o1 _ (u_in_lay l1))
              unfold u_lay at hlay
              rw [if_pos hfin] at hlay
              have hcf : m.cls = cf := by
                obtain ⟨_, _, c', _, _, _, -, -, hf', -, -, -, hown2, -⟩ := Cond.laysFinal_spec hlay
                have e1 : c' = cf := by have := hi.symm.trans hf'; simp at this; exact this.1.symm
                rw [l2, l5] at hown2
                rw [← e1]; exact Option.some.inj (hown.symm.trans hown2)
              have h6 := u_fits hfc hkC hkind (Or.inr hlay) hi (o2 _ l1) n1 n2
              exact W.putFinK hx hb hown (hts _ (mHas_ok l6)) hi2 hst hcf (hin l4) (by rw [q2]; exact h6) q1 q3 hlt rfl rfl hd fin
            · rename_i hfin
              have hlay := hts _ (o1 _ (u_in_lay l1))
              unfold u_lay at hlay
              rw [if_neg hfin] at hlay
              have h6 := u_store hfc hkC hkind hlay hi (o2 _ l1) n1 n2
              split at l3
              · exact W.putK hx hb (f := fd) ⟨hown, hts _ (mHas_ok l3), ⟨_, _, _, hi2⟩, hst⟩ (by rw [q2]; exact h6) q1 q3 hlt rfl rfl hd fin
              · exact va_WputK hx hb (f := fd) hown (va_Nw.use rfl (hN _ (mHasN_ok l3))) hi2 hst (by rw [q2]; exact h6) q1 q3 hlt rfl rfl hd fin
          · cases hlk
        · cases hs
      · cases hs
    · cases hs
  · cases hs
end MSF

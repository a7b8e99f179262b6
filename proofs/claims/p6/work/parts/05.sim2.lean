/-! jumps -/
def mJok (cs : List mE) (i : Nat) (en : mE) : Bool := match en.2.1 with
  | .goto off => decide ((mPcAt cs i : Int) + off = ((mPcAt cs (mTgt en 0) : Nat) : Int))
  | .if_icmp _ off => decide ((mPcAt cs i : Int) + off = ((mPcAt cs (mTgt en 0) : Nat) : Int))
  | .ifCond _ off => decide ((mPcAt cs i : Int) + off = ((mPcAt cs (mTgt en 0) : Nat) : Int))
  | .ifnull off => decide ((mPcAt cs i : Int) + off = ((mPcAt cs (mTgt en 0) : Nat) : Int))
  | .ifnonnull off => decide ((mPcAt cs i : Int) + off = ((mPcAt cs (mTgt en 0) : Nat) : Int))
  | .tableswitch d lo hi offs => decide ((mPcAt cs i : Int) + d = ((mPcAt cs (mTgt en 0) : Nat) : Int)) && (decide ((offs.toList.length : Int) = hi - lo + 1) && (List.range offs.toList.length).all (fun j => decide ((mPcAt cs i : Int) + offs.toList.getD j 0 = ((mPcAt cs (mTgt en (1 + j)) : Nat) : Int))))
  | .lookupswitch d ps => decide ((mPcAt cs i : Int) + d = ((mPcAt cs (mTgt en 0) : Nat) : Int)) && ((ps.toList.zip (ps.toList.drop 1)).all (fun (a, next) => a.1 < next.1) && (List.range ps.toList.length).all (fun j => decide ((mPcAt cs i : Int) + (ps.toList.getD j (0, 0)).2 = ((mPcAt cs (mTgt en (1 + j)) : Nat) : Int))))
  | _ => true
theorem mLk_ok (P : Nat → Int → Prop) (d z : Int) (h0 : P 0 d) : ∀ (ps : List (Int × Int)) (k0 : Nat), (∀ (j : Nat), j < ps.length → P (k0 + j) (ps.getD j (0, 0)).2) → P (mLk ps k0 z) (Op.lookupswitch.offset ps d z) := by
  intro ps
  induction ps with
  | nil => intro k0 _; exact h0
  | cons q r ih =>
    intro k0 h
    obtain ⟨a, o⟩ := q
    rw [Op.lookupswitch.offset_cons]
    unfold mLk
    by_cases hz : z = a
    · rw [if_pos hz]
      first | rw [if_pos hz] | rw [if_pos hz.symm]
      exact h 0 (by simp)
    · rw [if_neg hz]
      first | rw [if_neg hz] | rw [if_neg (Ne.symm hz)]
      refine ih (k0 + 1) fun j hj => ?_
      have h1 := h (j + 1) (by simp; omega)
      rw [show k0 + 1 + j = k0 + (j + 1) by omega]
      exact h1
section MSB
variable {p : Program} {l : Launch} {e : Env} {R : Room} {s : State} {m : MethodId} {args : Array Value} {below : List Frame} {meth : Method} {c : Code} {H : Heap} {locs : List Loc} {cells slots : Nat} {Q : State → Prop}
variable {cc : ByteArray} {cs : List mE} {b : Nat} {x : Nat → Nat} {en : mE} {i : Nat} {L : mL} {st : List Value} {h : mH} {g : mG}
set_option maxHeartbeats 4000000 in
theorem mB3_sim {len : Nat} (hx : p.tables.exec = Jvm.exec) (hb : c.code = cc) (hd : decode cc (mPcAt cs i) = .ok (en.2.1, len)) (hl3 : len = mLen en.2.1 ∨ (∃ a b c d, en.2.1 = .tableswitch a b c d) ∨ ∃ a b, en.2.1 = .lookupswitch a b) (hf : (∃ q o, en.2.1 = .if_icmp q o) ∨ (∃ q o, en.2.1 = .ifCond q o) ∨ (∃ o, en.2.1 = .ifnull o) ∨ (∃ o, en.2.1 = .ifnonnull o) → mPcAt cs (i + 1) = mPcAt cs i + mLen en.2.1) (hj : mJok cs i en = true)
    (hs : mB3 en i L st h = some g) (kk : mFol p l e R s m args below meth c cs (mSh b x) Q H locs cells slots g) : mFol p l e R s m args below meth c cs (mSh b x) Q H locs cells slots (i, L, st, h) ∧ g.2.2.2 = h ∧ g.2.1.length = L.length := by
  unfold mB3 at hs
  unfold mJok at hj
  split at hs
  · rename_i off heq
    cases hs
    rw [heq] at hj hd hl3
    have hlen : len = 3 := by rcases hl3 with h | ⟨_, _, _, _, h⟩ | ⟨_, _, h⟩ <;> first | exact h | cases h
    subst hlen
    refine ⟨fun ls hl => ?_, rfl, rfl⟩
    have k1 := kk ls hl
    dsimp only at k1 ⊢
    exact lv_goto hx hb hd (of_decide_eq_true hj) k1
  · rename_i q off heq
    split at hs
    · rename_i y x0 r
      cases hs
      have hf1 := hf (Or.inl ⟨_, _, heq⟩)
      rw [heq] at hj hd hl3 hf1
      have hlen : len = 3 := by rcases hl3 with h | ⟨_, _, _, _, h⟩ | ⟨_, _, h⟩ <;> first | exact h | cases h
      subst hlen
      have ht := of_decide_eq_true hj
      refine ⟨fun ls hl => ?_, by unfold mIf; split <;> rfl, by unfold mIf; split <;> rfl⟩
      have kt : mC2 q x0 y = true → W p l e R s m args below meth c H locs cells slots Q (F0 m (mPcAt cs (mTgt en 0)) ls (r.map (mSh b x))) := fun hq => by
        have k0 := kk
        unfold mIf at k0
        rw [if_pos hq] at k0
        exact k0 ls hl
      have kf : ¬ mC2 q x0 y = true → W p l e R s m args below meth c H locs cells slots Q (F0 m (mPcAt cs i + 3) ls (r.map (mSh b x))) := fun hq => by
        have k0 := kk
        unfold mIf at k0
        rw [if_neg hq] at k0
        have k1 := k0 ls hl
        dsimp only at k1
        rw [hf1] at k1
        exact k1
      dsimp only [List.map_cons, mSh]
      cases q
      · exact lv_icmp_eq hx hb hd ht (fun hq => kt (decide_eq_true hq)) (fun hq => kf (fun z => hq (of_decide_eq_true z)))
      · exact lv_icmp_ne hx hb hd ht (fun hq => kt (decide_eq_true hq)) (fun hq => kf (fun z => (of_decide_eq_true z) hq))
      · exact lv_icmp_lt hx hb hd ht (fun hq => kt (decide_eq_true hq)) (fun hq => kf (fun z => hq (of_decide_eq_true z)))
      · exact lv_icmp_ge hx hb hd ht (fun hq => kt (decide_eq_true hq)) (fun hq => kf (fun z => hq (of_decide_eq_true z)))
      · exact lv_icmp_gt hx hb hd ht (fun hq => kt (decide_eq_true hq)) (fun hq => kf (fun z => hq (of_decide_eq_true z)))
      · exact lv_icmp_le hx hb hd ht (fun hq => kt (decide_eq_true hq)) (fun hq => kf (fun z => hq (of_decide_eq_true z)))
    · cases hs
  · rename_i q off heq
    split at hs
    · rename_i x0 r
      cases hs
      have hf1 := hf (Or.inr (Or.inl ⟨_, _, heq⟩))
      rw [heq] at hj hd hl3 hf1
      have hlen : len = 3 := by rcases hl3 with h | ⟨_, _, _, _, h⟩ | ⟨_, _, h⟩ <;> first | exact h | cases h
      subst hlen
      have ht := of_decide_eq_true hj
      refine ⟨fun ls hl => ?_, by unfold mIf; split <;> rfl, by unfold mIf; split <;> rfl⟩
      have kt : mC2 q x0 0 = true → W p l e R s m args below meth c H locs cells slots Q (F0 m (mPcAt cs (mTgt en 0)) ls (r.map (mSh b x))) := fun hq => by
        have k0 := kk
        unfold mIf at k0
        rw [if_pos hq] at k0
        exact k0 ls hl
      have kf : ¬ mC2 q x0 0 = true → W p l e R s m args below meth c H locs cells slots Q (F0 m (mPcAt cs i + 3) ls (r.map (mSh b x))) := fun hq => by
        have k0 := kk
        unfold mIf at k0
        rw [if_neg hq] at k0
        have k1 := k0 ls hl
        dsimp only at k1
        rw [hf1] at k1
        exact k1
      dsimp only [List.map_cons, mSh]
      cases q
      · exact lv_if_eq hx hb hd ht (fun hq => kt (decide_eq_true hq)) (fun hq => kf (fun z => hq (of_decide_eq_true z)))
      · exact lv_if_ne hx hb hd ht (fun hq => kt (decide_eq_true hq)) (fun hq => kf (fun z => (of_decide_eq_true z) hq))
      · exact lv_if_lt hx hb hd ht (fun hq => kt (decide_eq_true hq)) (fun hq => kf (fun z => hq (of_decide_eq_true z)))
      · exact lv_if_ge hx hb hd ht (fun hq => kt (decide_eq_true hq)) (fun hq => kf (fun z => hq (of_decide_eq_true z)))
      · exact lv_if_gt hx hb hd ht (fun hq => kt (decide_eq_true hq)) (fun hq => kf (fun z => hq (of_decide_eq_true z)))
      · exact lv_if_le hx hb hd ht (fun hq => kt (decide_eq_true hq)) (fun hq => kf (fun z => hq (of_decide_eq_true z)))
    · cases hs
  · rename_i off heq
    split at hs
    · rename_i r
      cases hs
      have hf1 := hf (Or.inr (Or.inr (Or.inl ⟨_, heq⟩)))
      rw [heq] at hj hd hl3 hf1
      have hlen : len = 3 := by rcases hl3 with h | ⟨_, _, _, _, h⟩ | ⟨_, _, h⟩ <;> first | exact h | cases h
      subst hlen
      have ht := of_decide_eq_true hj
      refine ⟨fun ls hl => ?_, rfl, rfl⟩
      have k1 := kk ls hl
      dsimp only [List.map_cons, mSh] at k1 ⊢
      exact lv_ifnullN hx hb hd ht k1
    · rename_i a r
      cases hs
      have hf1 := hf (Or.inr (Or.inr (Or.inl ⟨_, heq⟩)))
      rw [heq] at hj hd hl3 hf1
      have hlen : len = 3 := by rcases hl3 with h | ⟨_, _, _, _, h⟩ | ⟨_, _, h⟩ <;> first | exact h | cases h
      subst hlen
      have ht := of_decide_eq_true hj
      refine ⟨fun ls hl => ?_, rfl, rfl⟩
      have k1 := kk ls hl
      dsimp only [List.map_cons, mSh] at k1 ⊢
      rw [hf1] at k1
      exact lv_ifnull hx hb hd k1
    · cases hs
  · rename_i off heq
    split at hs
    · rename_i r
      cases hs
      have hf1 := hf (Or.inr (Or.inr (Or.inr ⟨_, heq⟩)))
      rw [heq] at hj hd hl3 hf1
      have hlen : len = 3 := by rcases hl3 with h | ⟨_, _, _, _, h⟩ | ⟨_, _, h⟩ <;> first | exact h | cases h
      subst hlen
      have ht := of_decide_eq_true hj
      refine ⟨fun ls hl => ?_, rfl, rfl⟩
      have k1 := kk ls hl
      dsimp only [List.map_cons, mSh] at k1 ⊢
      rw [hf1] at k1
      exact lv_ifnonnullN hx hb hd k1
    · rename_i a r
      cases hs
      have hf1 := hf (Or.inr (Or.inr (Or.inr ⟨_, heq⟩)))
      rw [heq] at hj hd hl3 hf1
      have hlen : len = 3 := by rcases hl3 with h | ⟨_, _, _, _, h⟩ | ⟨_, _, h⟩ <;> first | exact h | cases h
      subst hlen
      have ht := of_decide_eq_true hj
      refine ⟨fun ls hl => ?_, rfl, rfl⟩
      have k1 := kk ls hl
      dsimp only [List.map_cons, mSh] at k1 ⊢
      exact lv_ifnonnull hx hb hd ht k1
    · cases hs
  · rename_i dflt lo hi offs heq
    split at hs
    · rename_i z r
      rw [heq] at hj hd
      simp only [Bool.and_eq_true, decide_eq_true_eq, List.all_eq_true, List.mem_range] at hj
      obtain ⟨h0, h1, h2⟩ := hj
      split at hs
      · rename_i hz
        cases hs
        refine ⟨fun ls hl => ?_, rfl, rfl⟩
        have k1 := kk ls hl
        dsimp only [List.map_cons, mSh] at k1 ⊢
        exact lv_tableOut hx hb hd hz h0 k1
      · rename_i hz
        cases hs
        refine ⟨fun ls hl => ?_, rfl, rfl⟩
        have k1 := kk ls hl
        dsimp only [List.map_cons, mSh] at k1 ⊢
        have hlt : (z.toInt - lo).toNat < offs.toList.length := by omega
        refine lv_tableIn hx hb hd (fun q => hz (Or.inl q)) (fun q => hz (Or.inr q)) (off := offs.toList.getD (z.toInt - lo).toNat 0) ?_ (h2 _ hlt) k1
        rw [← Array.getElem?_toList, List.getElem?_eq_getElem hlt, List.getD_eq_getElem?_getD, List.getElem?_eq_getElem hlt]
        rfl
    · cases hs
  · rename_i dflt ps heq
    split at hs
    · rename_i z r
      rw [heq] at hj hd
      simp only [Bool.and_eq_true, decide_eq_true_eq] at hj
      obtain ⟨h0, h1, h2⟩ := hj
      simp only [List.all_eq_true, List.mem_range, decide_eq_true_eq] at h2
      cases hs
      refine ⟨fun ls hl => ?_, rfl, rfl⟩
      have k1 := kk ls hl
      dsimp only [List.map_cons, mSh] at k1 ⊢
      exact lv_lookup hx hb hd h1 rfl (mLk_ok (fun k off => (mPcAt cs i : Int) + off = ((mPcAt cs (mTgt en k) : Nat) : Int)) dflt z.toInt h0 ps.toList 1 (fun j hj => h2 j hj)) k1
    · cases hs
  · cases hs
end MSB

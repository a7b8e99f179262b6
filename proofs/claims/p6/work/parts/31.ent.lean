/-! states of the analyser that follow from one another -/
abbrev aF : Type := Nat × Nat × List aV × List aV
abbrev aLc : Type := Nat × Nat × Nat × aX
abbrev aAn : Type := aSt × List aF × List aLc
noncomputable def aSubL (s : List aX) : List (Int × Nat) → aX
  | [] => (0, [])
  | t :: q => aAd (aSc t.1 (s.getD t.2 (0, []))) (aSubL s q)
noncomputable def aSub (s : List aX) (e : aX) : aX := aAd (aK e.1) (aSubL s e.2)
noncomputable def aRr (r : Nat → Int) (s : List aX) : Nat → Int := fun k => aEv r (s.getD k (0, []))
theorem aSubL_ev (r : Nat → Int) (s : List aX) : ∀ l, aEv r (aSubL s l) = aS1 (aRr r s) l
  | [] => rfl
  | t :: q => by
    show aEv r (aAd (aSc t.1 (s.getD t.2 (0, []))) (aSubL s q)) = t.1 * aRr r s t.2 + aS1 (aRr r s) q
    rw [aAd_ev, aSc_ev, aSubL_ev r s q]
    rfl
theorem aSub_ev (r : Nat → Int) (s : List aX) (e : aX) : aEv r (aSub s e) = aEv (aRr r s) e := by
  unfold aSub
  rw [aAd_ev, aK_ev, aSubL_ev]
  rfl
noncomputable def aSw (n : Nat) (s : List aX) : Prop := ∀ k, aWf n (s.getD k (0, []))
theorem aSubL_wf {n : Nat} {s : List aX} (hs : aSw n s) : ∀ l, aWf n (aSubL s l)
  | [] => aK_wf _ 0
  | t :: q => aAd_wf (aSc_wf (hs t.2)) (aSubL_wf hs q)
theorem aSub_wf {n : Nat} {s : List aX} (hs : aSw n s) (e : aX) : aWf n (aSub s e) := aAd_wf (aK_wf _ _) (aSubL_wf hs e.2)
noncomputable def aWfb (n : Nat) (e : aX) : Bool := e.2.all (fun t => decide (t.2 < n))
theorem aWfb_ok {n : Nat} {e : aX} (h : aWfb n e = true) : aWf n e := fun t ht => of_decide_eq_true (List.all_eq_true.mp h t ht)
theorem aSw_of {n : Nat} {s : List aX} (h : s.all (aWfb n) = true) : aSw n s := by
  intro k
  rw [List.getD_eq_getElem?_getD]
  cases hk : s[k]? with
  | none => exact aK_wf _ 0
  | some e => exact aWfb_ok (List.all_eq_true.mp h e (List.mem_of_getElem? hk))
noncomputable def aOf (S : aSt) (frs : List aF) (s : List aX) (l : aLc) : aX := match l.1 with
  | 0 => ((frs.getD l.2.1 (0, 0, [], [])).2.2.1.getD l.2.2.1 (6, (0, []), 0)).2.1
  | 1 => ((frs.getD l.2.1 (0, 0, [], [])).2.2.2.getD l.2.2.1 (6, (0, []), 0)).2.1
  | 2 => match S.2.2.1.find? (fun g => g.1 == l.2.1 && aNm S.1 (aSb g.2.1 (aSub s l.2.2.2)) == (0, [])) with
    | some g => g.2.2.2.1
    | none => (0, [])
  | 3 => match S.2.2.1.find? (fun g => g.1 == (((frs.getD 0 (0, 0, [], [])).2.2.1.getD l.2.1 (6, (0, []), 0)).2.2) && aNm S.1 (aSb g.2.1 l.2.2.2) == (0, [])) with
    | some g => g.2.2.2.1
    | none => (0, [])
  | _ => match S.2.2.1.find? (fun g => g.1 == l.2.1 && aNm S.1 (aSb g.2.1 (((frs.getD 0 (0, 0, [], [])).2.2.1.getD l.2.2.1 (6, (0, []), 0)).2.1)) == (0, [])) with
    | some g => g.2.2.2.1
    | none => (0, [])
noncomputable def aSg (S : aSt) (frs : List aF) : List aLc → List aX → List aX
  | [], s => s
  | l :: q, s => aSg S frs q (s ++ [aOf S frs s l])
noncomputable def aEqE (S : aSt) (a b : aX) : Bool := aNm S.1 (aSb a b) == (0, []) || (aPr S (aSb a b) && aPr S (aSb b a))
noncomputable def aVe (S : aSt) (s : List aX) (n1 : Nat) (v v1 : aV) : Bool := aWfb n1 v1.2.1 && (decide (6 ≤ v1.1) || (v.1 == v1.1 && (if v1.1 = 2 ∨ v1.1 = 4 then v.2.2 == v1.2.2 else if v1.1 = 3 then true else aEqE S v.2.1 (aSub s v1.2.1))))
noncomputable def aZe (S : aSt) (s : List aX) (n1 : Nat) : List aV → List aV → Bool
  | [], [] => true
  | v :: L, v1 :: L1 => aVe S s n1 v v1 && aZe S s n1 L L1
  | _, _ => false
noncomputable def aZf (S : aSt) (s : List aX) (n1 : Nat) : List aF → List aF → Bool
  | [], [] => true
  | f :: L, f1 :: L1 => (f.1 == f1.1 && (f.2.1 == f1.2.1 && (aZe S s n1 f.2.2.1 f1.2.2.1 && aZe S s n1 f.2.2.2 f1.2.2.2))) && aZf S s n1 L L1
  | _, _ => false
noncomputable def aBe (S : aSt) : List aX → aB → Bool
  | [], [] => true
  | e :: s, b :: B => (aPr S (aSb e (aK b.1)) && aPr S (aSb (aK b.2) e)) && aBe S s B
  | _, _ => false
noncomputable def aEnS (S : aSt) (frs : List aF) (A : aAn) (s : List aX) : Bool :=
  (aZf S s A.1.1.length frs A.2.1 && (s.all (aWfb S.1.length) && aBe S s A.1.1)) && (A.1.2.1.all (fun c => aWfb A.1.1.length c && aPr S (aSub s c)) && (A.1.2.2.1.all (fun g1 => aWfb A.1.1.length g1.2.1 && S.2.2.1.any (fun g => g.1 == g1.1 && (aEqE S g.2.1 (aSub s g1.2.1) && aVe S s A.1.1.length g.2.2 g1.2.2))) && aWfb A.1.1.length A.1.2.2.2))
noncomputable def aMs (S : aSt) (s : List aX) (e : aX) : Bool := aPr S (aSub s e) && aPr S (aSb (aSb S.2.2.2 (aK 1)) (aSub s e))
section ENT
variable {r : Nat → Int} {S : aSt} {m0 : Int} {h : mH} {s : List aX} {n1 : Nat}
theorem aEqE_ok {a b : aX} (hS : aOk r S m0 h) (ha : aWf S.1.length a) (hb : aWf S.1.length b) (h : aEqE S a b = true) : aEv r a = aEv r b := by
  unfold aEqE at h
  simp only [Bool.or_eq_true, Bool.and_eq_true, beq_iff_eq] at h
  rcases h with h | ⟨h1, h2⟩
  · have h3 : aEv r (aSb a b) = 0 := by rw [← aNm_ev hS.1, h]; rfl
    rw [aSb_ev] at h3
    omega
  · have h3 := aPr_ok hS (aSb_wf ha hb) h1
    have h4 := aPr_ok hS (aSb_wf hb ha) h2
    rw [aSb_ev] at h3 h4
    omega
theorem aVs_top {n : Nat} {r : Nat → Int} {v : aV} {w : Value} (hw : aWf n v.2.1) (h : 6 ≤ v.1) : aVs n r v w := by
  refine ⟨hw, ?_⟩
  match hv : v.1, h with
  | k + 6, _ => exact trivial
theorem aVe_ok {v v1 : aV} {w : Value} (hS : aOk r S m0 h) (hs : aSw S.1.length s) (hv : aVs S.1.length r v w) (he : aVe S s n1 v v1 = true) : aVs n1 (aRr r s) v1 w := by
  unfold aVe at he
  rw [Bool.and_eq_true] at he
  obtain ⟨e1, e2⟩ := he
  have hw := aWfb_ok e1
  rw [Bool.or_eq_true] at e2
  rcases e2 with e2 | e2
  · exact aVs_top hw (of_decide_eq_true e2)
  · rw [Bool.and_eq_true, beq_iff_eq] at e2
    obtain ⟨e2, e3⟩ := e2
    obtain ⟨hv1, hv2⟩ := hv
    refine ⟨hw, ?_⟩
    rw [e2] at hv2
    have key : (v1.1 ≠ 2 ∧ v1.1 ≠ 4 ∧ v1.1 ≠ 3) → aEv r v.2.1 = aEv (aRr r s) v1.2.1 := by
      rintro ⟨q1, q2, q3⟩
      rw [if_neg (by omega), if_neg q3] at e3
      rw [← aSub_ev]
      exact aEqE_ok hS hv1 (aSub_wf hs _) e3
    match hk : v1.1 with
    | 0 =>
      rw [hk] at hv2
      rw [key (by omega)] at hv2
      exact hv2
    | 1 =>
      rw [hk] at hv2
      rw [key (by omega)] at hv2
      exact hv2
    | 2 =>
      rw [hk] at hv2
      rw [if_pos (Or.inl hk), beq_iff_eq] at e3
      rw [e3] at hv2
      exact hv2
    | 3 =>
      rw [hk] at hv2
      exact hv2
    | 4 =>
      rw [hk] at hv2
      rw [if_pos (Or.inr hk), beq_iff_eq] at e3
      rw [e3] at hv2
      exact hv2
    | 5 =>
      rw [hk] at hv2
      rw [key (by omega)] at hv2
      exact hv2
    | k + 6 => exact trivial
theorem aZe_fs (hS : aOk r S m0 h) (hs : aSw S.1.length s) : ∀ {L L1 : List aV} {M : mL}, aFs S.1.length r L M → aZe S s n1 L L1 = true → aFs n1 (aRr r s) L1 M
  | [], [], M, hf, _ => ⟨hf.1, fun k v hk _ => by simp at hk⟩
  | v :: L, v1 :: L1, M, hf, he => by
    have he : (aVe S s n1 v v1 && aZe S s n1 L L1) = true := he
    rw [Bool.and_eq_true] at he
    obtain ⟨hl, hf⟩ := hf
    match M, hl with
    | o :: M, hl =>
      have ih := aZe_fs hS hs (M := M) (L := L) (L1 := L1) ⟨by simpa using hl, fun k u hk hu => hf (k + 1) u hk hu⟩ he.2
      refine ⟨by simpa using ih.1, fun k u hk hu => ?_⟩
      match k, hk with
      | 0, hk =>
        cases hk
        have h6 : v.1 < 6 := by
          have h1 := he.1
          unfold aVe at h1
          simp only [Bool.and_eq_true, Bool.or_eq_true, decide_eq_true_eq, beq_iff_eq] at h1
          rcases h1.2 with q | q
          · omega
          · omega
        obtain ⟨w, w1, w2⟩ := hf 0 v rfl h6
        exact ⟨w, w1, aVe_ok hS hs w2 he.1⟩
      | k + 1, hk => exact ih.2 k u hk hu
  | [], _ :: _, _, _, he => by cases he
  | _ :: _, [], _, _, he => by cases he
theorem aZe_sk (hS : aOk r S m0 h) (hs : aSw S.1.length s) : ∀ {L L1 : List aV} {M : List Value}, aSk S.1.length r L M → aZe S s n1 L L1 = true → aSk n1 (aRr r s) L1 M
  | [], [], [], _, _ => trivial
  | [], [], _ :: _, hf, _ => hf.elim
  | v :: L, v1 :: L1, M, hf, he => by
    have he : (aVe S s n1 v v1 && aZe S s n1 L L1) = true := he
    rw [Bool.and_eq_true] at he
    obtain ⟨w, M1, rfl, h1, h2⟩ := hf.cons
    exact ⟨aVe_ok hS hs h1 he.1, aZe_sk hS hs h2 he.2⟩
  | [], _ :: _, _, _, he => by cases he
  | _ :: _, [], _, _, he => by cases he
/-- frames of the analyser and of the small machine -/
noncomputable def nMf (n : Nat) (r : Nat → Int) : List aF → List nF → Prop
  | [], [] => True
  | f :: L, c :: M => (f.1 = c.1 ∧ f.2.1 = c.2.1 ∧ aFs n r f.2.2.1 c.2.2.1 ∧ aSk n r f.2.2.2 c.2.2.2) ∧ nMf n r L M
  | _, _ => False
theorem nMf.le {n n1 : Nat} {r r1 : Nat → Int} (hl : aLe n r n1 r1) : ∀ {L : List aF} {M : List nF}, nMf n r L M → nMf n1 r1 L M
  | [], [], _ => trivial
  | f :: L, c :: M, h => ⟨⟨h.1.1, h.1.2.1, h.1.2.2.1.le hl, h.1.2.2.2.le hl⟩, nMf.le hl h.2⟩
  | [], _ :: _, h => h.elim
  | _ :: _, [], h => h.elim
theorem aZf_ok (hS : aOk r S m0 h) (hs : aSw S.1.length s) : ∀ {L L1 : List aF} {M : List nF}, nMf S.1.length r L M → aZf S s n1 L L1 = true → nMf n1 (aRr r s) L1 M
  | [], [], [], _, _ => trivial
  | [], [], _ :: _, hf, _ => hf.elim
  | f :: L, f1 :: L1, [], hf, _ => hf.elim
  | f :: L, f1 :: L1, c :: M, hf, he => by
    have he : ((f.1 == f1.1 && (f.2.1 == f1.2.1 && (aZe S s n1 f.2.2.1 f1.2.2.1 && aZe S s n1 f.2.2.2 f1.2.2.2))) && aZf S s n1 L L1) = true := he
    simp only [Bool.and_eq_true, beq_iff_eq] at he
    obtain ⟨⟨e1, e2, e3, e4⟩, e5⟩ := he
    obtain ⟨⟨q1, q2, q3, q4⟩, q5⟩ := hf
    exact ⟨⟨e1.symm.trans q1, e2.symm.trans q2, aZe_fs hS hs q3 e3, aZe_sk hS hs q4 e4⟩, aZf_ok hS hs q5 e5⟩
  | [], _ :: _, _, _, he => by cases he
  | _ :: _, [], _, _, he => by cases he
theorem aBe_ok (hS : aOk r S m0 h) : ∀ {s : List aX} {B : aB}, aSw S.1.length s → aBe S s B = true → aBd B (aRr r s)
  | [], [], _, _ => fun k q hk => by simp at hk
  | e :: s, b :: B, hs, he => by
    have he : ((aPr S (aSb e (aK b.1)) && aPr S (aSb (aK b.2) e)) && aBe S s B) = true := he
    simp only [Bool.and_eq_true] at he
    obtain ⟨⟨e1, e2⟩, e3⟩ := he
    have h0 : aWf S.1.length e := hs 0
    have ih := aBe_ok hS (s := s) (B := B) (fun k => hs (k + 1)) e3
    intro k q hk
    match k, hk with
    | 0, hk =>
      cases hk
      have p1 := aPr_ok hS (aSb_wf h0 (aK_wf _ _)) e1
      have p2 := aPr_ok hS (aSb_wf (aK_wf _ _) h0) e2
      rw [aSb_ev, aK_ev] at p1 p2
      show b.1 ≤ aEv r e ∧ aEv r e ≤ b.2
      omega
    | k + 1, hk => exact ih k q hk
  | [], _ :: _, _, he => by cases he
  | _ :: _, [], _, he => by cases he
set_option maxHeartbeats 1000000 in
theorem aEnS_ok {frs : List aF} {A : aAn} {cfs : List nF} (hS : aOk r S m0 h) (hf : nMf S.1.length r frs cfs) (he : aEnS S frs A s = true) : aOk (aRr r s) A.1 (aEv r (aSub s A.1.2.2.2) + aKap * aPh h) h ∧ nMf A.1.1.length (aRr r s) A.2.1 cfs ∧ aSw S.1.length s := by
  unfold aEnS at he
  simp only [Bool.and_eq_true] at he
  obtain ⟨⟨e1, e2, e3⟩, e4, e5, e6⟩ := he
  have hs := aSw_of e2
  refine ⟨⟨aBe_ok hS hs e3, ?_, ?_, aWfb_ok e6, by rw [aSub_ev]; exact Int.le_refl _⟩, aZf_ok hS hs hf e1, hs⟩
  · intro c hc
    have h1 := List.all_eq_true.mp e4 c hc
    rw [Bool.and_eq_true] at h1
    refine ⟨aWfb_ok h1.1, ?_⟩
    rw [← aSub_ev]
    exact aPr_ok hS (aSub_wf hs _) h1.2
  · intro g1 hg1
    have h1 := List.all_eq_true.mp e5 g1 hg1
    rw [Bool.and_eq_true] at h1
    obtain ⟨g, hg, h2⟩ := List.any_eq_true.mp h1.2
    simp only [Bool.and_eq_true, beq_iff_eq] at h2
    obtain ⟨h3, h4, h5⟩ := h2
    obtain ⟨x1, j, w, x2, x3, x4⟩ := hS.2.2.1 g hg
    refine ⟨aWfb_ok h1.1, j, w, ?_, by rw [← h3]; exact x3, aVe_ok hS hs x4 h5⟩
    rw [← aSub_ev, ← aEqE_ok hS x1 (aSub_wf hs _) h4]
    exact x2
theorem aMs_ok {e : aX} (hS : aOk r S m0 h) (hh : aHp h) (hs : aSw S.1.length s) (he : aMs S s e = true) : 0 ≤ aEv r (aSub s e) + aKap * aPh h ∧ aEv r (aSub s e) + aKap * aPh h < m0 := by
  unfold aMs at he
  rw [Bool.and_eq_true] at he
  have p1 := aPr_ok hS (aSub_wf hs _) he.1
  have p2 := aPr_ok hS (aSb_wf (aSb_wf hS.2.2.2.1 (aK_wf _ _)) (aSub_wf hs _)) he.2
  rw [aSb_ev, aSb_ev, aK_ev] at p2
  have p3 := hS.2.2.2.2
  have p4 : 0 ≤ aKap * aPh h := Int.mul_nonneg (by decide) (aPh_rg hh).1
  omega
end ENT

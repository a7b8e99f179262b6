/-! the same with what is promised of cells, by recursors -/
noncomputable def qzaPoB (S : aSt) (po : List aPo) : Bool := qzal po (fun p => qzay S.2.2.1 (fun g => Nat.beq g.1 p.1 && (Nat.beq g.2.2.1 0 && (qzPr S (qzSb g.2.1 (aK p.2.1)) && (qzPr S (qzSb (aK p.2.1) g.2.1) && (qzPr S (qzSb g.2.2.2.1 (aK p.2.2)) && qzPr S (qzSb (aK p.2.2) g.2.2.2.1)))))))
theorem qzaPoB_eq : qzaPoB = aPoB := by
  delta qzaPoB
  simp only [qzal_eq, qzay_eq, qzPr_eq, qzSb_eq, qzbe]
  rfl
noncomputable def qzbSt1 (po : List aPo) (X : aCx) (w : aW) : Option (List aW) := match w.2.1 with
  | [] => none
  | f :: fs => match qzMt f.1 with
    | none => none
    | some t => match qzCe t f.2.1 with
      | none => none
      | some en =>
        if (!w.2.2 && qzay X.2.2.1 (fun q => Nat.beq f.1 q.1 && Nat.beq f.2.1 q.2)) = true then (if qzay X.2.1 (fun A => qzEnS w.1 (f :: fs) A (qzSg w.1 (f :: fs) A.2.2 []) && qzMs w.1 (qzSg w.1 (f :: fs) A.2.2 []) A.1.2.2.2) = true then some [] else none)
        else match qzFkV w.1 (f :: fs) X.2.2.2.1 with
        | some x => some (qzmp (qzFkL w.1 x ((qzgD w.1.1 x (0, 0)).2 - (qzgD w.1.1 x (0, 0)).1 + 1).toNat (qzgD w.1.1 x (0, 0)).1) (fun S1 => (S1, f :: fs, true)))
        | none =>
          if nCl en = 12 then (match qzRet w.1 t en f.2.2.2 with
            | some l => match fs with
              | [] => if (qzRsB w.1 X.2.2.2.2.1 l && qzaPoB w.1 po) = true then some [] else none
              | f2 :: gs => some [(w.1, (f2.1, f2.2.1, f2.2.2.1, qzap l f2.2.2.2) :: gs, false)]
            | none => none)
          else if nCl en = 5 then (match qzMt (mTgt en 1) with
            | some t2 => if mCnt t2 ≤ (qzln f.2.2.2) then qzInto X w.1 f fs (mTgt en 1) t2 (qztk f.2.2.2 (mCnt t2)).reverse (qzdp f.2.2.2 (mCnt t2)) else none
            | none => none)
          else if qzWk X.2.2.2.2.2 en w.1 f.2.2.2 = true then (match qzStp en w.1 f.2.1 f.2.2.1 f.2.2.2 with
            | some l => some (qzmp l (fun q => (q.1, (f.1, q.2.1, q.2.2.1, q.2.2.2) :: fs, false)))
            | none => none) else none
theorem qzbSt1_eq : qzbSt1 = bSt1 := by
  delta qzbSt1
  simp only [qzct_eq, qzMt_eq, qzCe_eq, qzay_eq, qzEnS_eq, qzSg_eq, qzMs_eq, qzFkV_eq, qzmp_eq, qzFkL_eq, qzgD_eq, qzRet_eq, qzRsB_eq, qzaPoB_eq, qzap_eq, qzln_eq, qzInto_eq, qztk_eq, qzdp_eq, qzWk_eq, qzStp_eq, qzbe]
  rfl
noncomputable def qzbSt2 (po : List aPo) (X : aCx) (w : aW) : Option (List aW) := match w with
  | ((B, C, G, O), (k, i, L, st) :: fs, b) => qzbSt1 po X ((B, C, G, O), (k, i, L, st) :: fs, b)
  | (_, [], _) => none
theorem qzbSt2_eq : qzbSt2 = bSt2 := by
  delta qzbSt2
  simp only [qzbSt1_eq]
  rfl
noncomputable def qzbGo (po : List aPo) (X : aCx) (n : Nat) : List aW → Bool := Nat.rec (motive := fun _ => List aW → Bool) (fun ws => List.rec (motive := fun _ => Bool) true (fun _ _ _ => false) ws) (fun _ ih ws => List.rec (motive := fun _ => Bool) true (fun w ws _ => match qzbSt2 po X w with
    | some l => ih (qzap l ws)
    | none => false) ws) n
theorem qzbGo_e (po : List aPo) (X : aCx) : ∀ (n : Nat) (ws : List aW), qzbGo po X n ws = bGo po X n ws := by
  intro n
  induction n with
  | zero => intro ws; cases ws <;> rfl
  | succ n ih =>
    intro ws
    cases ws with
    | nil => rfl
    | cons w ws =>
      show (match qzbSt2 po X w with
        | some l => qzbGo po X n (qzap l ws)
        | none => false) = (match bSt2 po X w with
        | some l => bGo po X n (l ++ ws)
        | none => false)
      rw [qzbSt2_eq]
      cases bSt2 po X w with
      | none => rfl
      | some l => exact (ih _).trans (by rw [qzap_eq])
theorem qzbGo_eq : qzbGo = bGo := by funext po X n ws; exact qzbGo_e po X n ws
noncomputable def qzbCk (po : List aPo) (T : List aCt) (As : List aAn) (hd : List (Nat × Nat)) (fk : List (Nat × Nat × aLc)) (c : aCt) (n : Nat) : Bool :=
  qzbGo po (T, As, hd, fk, c.2.2.1, c.2.2.2) n [(c.2.1.1, c.2.1.2.1, true)] && qzal As (fun A => qzbGo po (T, As, hd, fk, c.2.2.1, c.2.2.2) n [(qzTt A.1, A.2.1, true)])
theorem qzbCk_eq : qzbCk = bCk := by
  delta qzbCk
  simp only [qzbGo_eq, qzal_eq, qzTt_eq]
  rfl
theorem qzbCk_ok {sc : List Int32} {dm : Nat} {po : List aPo} {T : List aCt} {As : List aAn} {hd : List (Nat × Nat)} {fk : List (Nat × Nat × aLc)} {c : aCt} {n : Nat} (hT : ∀ c ∈ T, nMe sc dm c) (hk : qzbCk po T As hd fk c n = true) : bMe sc (dm + 9) po c := bCk_ok hT (by rw [qzbCk_eq] at hk; exact hk)

/-! who agrees with whom -/
theorem pTe_rg {kd c : Nat} {f : Int} (f0 : 0 ≤ f) (f1 : f ≤ 54) : 0 ≤ pTe kd f c ∧ pTe kd f c ≤ 54 := by
  unfold pTe
  split
  · omega
  · have q0 : 0 ≤ f / (c : Int) := Int.ediv_nonneg f0 (by omega)
    have q1 : f / (c : Int) ≤ f := Int.ediv_le_self (c : Int) f0
    unfold pTm
    (repeat' split) <;> omega
theorem pSeem_rg {G : Nat → Int} {n kd a s : Nat} (hG : ∀ j, j < 36 → 0 ≤ G j ∧ G j ≤ 9) (ha : a < 6) (hn : n ≤ 6) : 0 ≤ pSeem G n kd a s ∧ pSeem G n kd a s ≤ 54 := by
  obtain ⟨h1, h2, h3⟩ := sF_rg (s := s) hG ha kd n hn
  unfold pSeem
  exact pTe_rg h1 (by omega)
noncomputable def pDi (x y : Int) : Int := if x - y < 0 then -(x - y) else x - y
noncomputable def pAp (x y : Int) (u v : Bool) : Int := if u = true ∧ v = true then (if x = 0 ∨ y = 0 then -1 else pDi x y) else -1
noncomputable def pAg (x y : Int) (u v : Bool) : Bool := u && (v && (decide (0 < x) && (decide (0 < y) && decide (pDi x y < 2))))
theorem pAg_ap {x y : Int} {u v : Bool} (x0 : 0 ≤ x) (y0 : 0 ≤ y) : pAg x y u v = true ↔ (pAp x y u v = 0 ∨ pAp x y u v = 1) := by
  unfold pAg pAp pDi
  cases u with
  | false => exact ⟨fun q => absurd q (by simp), fun q => by rw [if_neg (by simp)] at q; omega⟩
  | true =>
    cases v with
    | false => exact ⟨fun q => absurd q (by simp), fun q => by rw [if_neg (by simp)] at q; omega⟩
    | true =>
      rw [if_pos (show true = true ∧ true = true from ⟨rfl, rfl⟩)]
      simp only [Bool.true_and, Bool.and_eq_true, decide_eq_true_eq]
      (repeat' split) <;> (constructor <;> intro q <;> omega)
section AGR
variable {sc : List Int32} {d : Nat} {h : mH}
theorem s_neg {rt : Option FieldType} {cs : List mE} {i : Nat} {L : mL} {st : List Value} {r : mR} {en : mE} {a : Int} (he : cs[i]? = some en) (ho : en.2.1 = .ineg) (hr : nRn sc d rt cs (i + 1, L, sI (-a) :: st, h) r) : nRn sc d rt cs (i, L, sI a :: st, h) r := by
  refine sStep he (by unfold nCl; rw [ho]; intro q; cases q) (fun call => mStep_B1 ?_) hr
  unfold mB1
  rw [ho]
  dsimp only
  rw [← Int32.ofInt_neg]
theorem fAbsX {x y : Int} (x0 : 0 ≤ x) (x1 : x ≤ 100) (y0 : 0 ≤ y) (y1 : y ≤ 100) : nEv sc (d + 1) 67 [sI (x - y)] h (some (sI (pDi x y)), h) := by
  refine nEv_of (t := mMe67) rfl ?_
  show nRn sc (d) (mMT mMe67) (mMC mMe67) (0, [some (sI (x - y))], [], h) _
  refine sP 1 (g1 := (1, [some (sI (x - y))], [sI (x - y)], h)) rfl ?_
  refine s_ifc (q := .ge) (a := x - y) rfl ⟨_, rfl⟩ rfl (by unfold sR aMi aMa; omega) (fun hc1 => ?_) (fun hc1 => ?_)
  · have hc1 : (0 : Int) ≤ (x - y) := hc1
    refine sP 1 (g1 := (6, [some (sI (x - y))], [sI (x - y)], h)) rfl ?_
    exact s_reti rfl rfl (Or.inl rfl) (by unfold pDi; first | rw [if_pos (by omega)] | rw [if_neg (by omega)]) rfl
  · have hc1 : ¬ ((0 : Int) ≤ (x - y)) := hc1
    refine sP 1 (g1 := (3, [some (sI (x - y))], [sI (x - y)], h)) rfl ?_
    refine s_neg (a := x - y) rfl rfl ?_
    refine sP 1 (g1 := (6, [some (sI (x - y))], [sI (-(x - y))], h)) rfl ?_
    exact s_reti rfl rfl (Or.inl rfl) (by unfold pDi; first | rw [if_pos (by omega)] | rw [if_neg (by omega)]) rfl
theorem fAbsM {x y : Int} (x0 : 0 ≤ x) (x1 : x ≤ 100) (y0 : 0 ≤ y) (y1 : y ≤ 100) : nEv sc (d + 1) 172 [sI (x - y)] h (some (sI (pDi x y)), h) := by
  refine nEv_of (t := mMe172) rfl ?_
  show nRn sc (d) (mMT mMe172) (mMC mMe172) (0, [some (sI (x - y))], [], h) _
  refine sP 1 (g1 := (1, [some (sI (x - y))], [sI (x - y)], h)) rfl ?_
  refine s_ifc (q := .ge) (a := x - y) rfl ⟨_, rfl⟩ rfl (by unfold sR aMi aMa; omega) (fun hc1 => ?_) (fun hc1 => ?_)
  · have hc1 : (0 : Int) ≤ (x - y) := hc1
    refine sP 1 (g1 := (6, [some (sI (x - y))], [sI (x - y)], h)) rfl ?_
    exact s_reti rfl rfl (Or.inl rfl) (by unfold pDi; first | rw [if_pos (by omega)] | rw [if_neg (by omega)]) rfl
  · have hc1 : ¬ ((0 : Int) ≤ (x - y)) := hc1
    refine sP 1 (g1 := (3, [some (sI (x - y))], [sI (x - y)], h)) rfl ?_
    refine s_neg (a := x - y) rfl rfl ?_
    refine sP 1 (g1 := (6, [some (sI (x - y))], [sI (-(x - y))], h)) rfl ?_
    exact s_reti rfl rfl (Or.inl rfl) (by unfold pDi; first | rw [if_pos (by omega)] | rw [if_neg (by omega)]) rfl
theorem fApart {e n a b s ka kb : Nat} (hh : aHp h) (he : e ∈ eAd) (hn : hI h e 3 = n) (ha : a < 6) (hb : b < 6) (hs : s < 64) (hka : hI h (e + 1) a = ka) (hkb : hI h (e + 1) b = kb) : nEv sc (d + 4) 66 [.ref e, sI (a : Int), sI (b : Int), sI (s : Int)] h (some (sI (pAp (pSeem (hI h (e + 2)) n ka a s) (pSeem (hI h (e + 2)) n kb b s) (bt s a) (bt s b))), h) := by
  have nn := hI_rg hh (ea_p he)
  have rka := hI_rg hh (ea_kd he ha)
  have rkb := hI_rg hh (ea_kd he hb)
  have h6a : ka < 6 := by omega
  have h6b : kb < 6 := by omega
  have ra := pSeem_rg (n := n) (kd := ka) (s := s) (eG hh he) ha (by omega)
  have rb := pSeem_rg (n := n) (kd := kb) (s := s) (eG hh he) hb (by omega)
  refine nEv_of (t := mMe66) rfl ?_
  show nRn sc (d + 3) (mMT mMe66) (mMC mMe66) (0, [some (.ref e), some (sI (a : Int)), some (sI (b : Int)), some (sI (s : Int)), none, none], [], h) _
  by_cases ua : bt s a = true
  · by_cases ub : bt s b = true
    · refine sP 2 (g1 := (2, [some (.ref e), some (sI ((a : Int))), some (sI ((b : Int))), some (sI ((s : Int))), none, none], [sI ((a : Int)), sI ((s : Int))], h)) rfl ?_
      have ev1 := fIsIn (sc := sc) (d := d + 2) (h := h) (s := s) (a := a) hs ha
      rw [if_pos ua] at ev1
      refine s_call (k := 39) (args := [sI ((s : Int)), sI ((a : Int))]) (st := []) (v := some (sI 1)) (h1 := h) rfl ⟨rfl, rfl⟩ rfl rfl rfl rfl rfl rfl ev1 ?_
      refine s_ifc (q := .eq) (a := 1) rfl ⟨_, rfl⟩ rfl (by unfold sR aMi aMa; omega) (fun hc2 => ?_) (fun hc2 => ?_)
      · have hc2 : (1 : Int) = 0 := hc2
        omega
      · have hc2 : ¬ ((1 : Int) = 0) := hc2
        refine sP 2 (g1 := (6, [some (.ref e), some (sI ((a : Int))), some (sI ((b : Int))), some (sI ((s : Int))), none, none], [sI ((b : Int)), sI ((s : Int))], h)) rfl ?_
        have ev3 := fIsIn (sc := sc) (d := d + 2) (h := h) (s := s) (a := b) hs hb
        rw [if_pos ub] at ev3
        refine s_call (k := 39) (args := [sI ((s : Int)), sI ((b : Int))]) (st := []) (v := some (sI 1)) (h1 := h) rfl ⟨rfl, rfl⟩ rfl rfl rfl rfl rfl rfl ev3 ?_
        refine s_ifc (q := .ne) (a := 1) rfl ⟨_, rfl⟩ rfl (by unfold sR aMi aMa; omega) (fun hc4 => ?_) (fun hc4 => ?_)
        · have hc4 : (1 : Int) ≠ 0 := hc4
          refine sP 2 (g1 := (12, [some (.ref e), some (sI ((a : Int))), some (sI ((b : Int))), some (sI ((s : Int))), none, none], [.ref e, .ref e], h)) rfl ?_
          refine s_get (a := e) (j := 0) hh rfl ⟨_, rfl⟩ (ea_t he) rfl rfl (v := .ref (e + 1)) (hR_ok hh (ea_r1 he)) ?_
          refine sP 1 (g1 := (14, [some (.ref e), some (sI ((a : Int))), some (sI ((b : Int))), some (sI ((s : Int))), none, none], [sI ((a : Int)), .ref (e + 1), .ref e], h)) rfl ?_
          refine s_iald (a := e + 1) (n := 6) (j := (a : Int)) hh rfl rfl (ea_1 he) (by omega) (by omega) (by decide) (v := sI ((ka : Int))) (by rw [Int.toNat_natCast]; have q := hI_ok hh (ea_kd he ha); rw [hka] at q; exact q) ?_
          refine sP 2 (g1 := (17, [some (.ref e), some (sI ((a : Int))), some (sI ((b : Int))), some (sI ((s : Int))), none, none], [sI ((s : Int)), sI ((a : Int)), sI ((ka : Int)), .ref e], h)) rfl ?_
          refine s_call (k := 38) (args := [.ref e, sI ((ka : Int)), sI ((a : Int)), sI ((s : Int))]) (st := []) (v := some (sI (pSeem (hI h (e + 2)) n ka a s))) (h1 := h) rfl ⟨rfl, rfl⟩ rfl rfl rfl rfl (sRcv hh (ea_t he) rfl) rfl (fSeemAs hh he hn h6a ha hs) ?_
          refine sP 3 (g1 := (21, [some (.ref e), some (sI ((a : Int))), some (sI ((b : Int))), some (sI ((s : Int))), some (sI (pSeem (hI h (e + 2)) n ka a s)), none], [.ref e, .ref e], h)) rfl ?_
          refine s_get (a := e) (j := 0) hh rfl ⟨_, rfl⟩ (ea_t he) rfl rfl (v := .ref (e + 1)) (hR_ok hh (ea_r1 he)) ?_
          refine sP 1 (g1 := (23, [some (.ref e), some (sI ((a : Int))), some (sI ((b : Int))), some (sI ((s : Int))), some (sI (pSeem (hI h (e + 2)) n ka a s)), none], [sI ((b : Int)), .ref (e + 1), .ref e], h)) rfl ?_
          refine s_iald (a := e + 1) (n := 6) (j := (b : Int)) hh rfl rfl (ea_1 he) (by omega) (by omega) (by decide) (v := sI ((kb : Int))) (by rw [Int.toNat_natCast]; have q := hI_ok hh (ea_kd he hb); rw [hkb] at q; exact q) ?_
          refine sP 2 (g1 := (26, [some (.ref e), some (sI ((a : Int))), some (sI ((b : Int))), some (sI ((s : Int))), some (sI (pSeem (hI h (e + 2)) n ka a s)), none], [sI ((s : Int)), sI ((b : Int)), sI ((kb : Int)), .ref e], h)) rfl ?_
          refine s_call (k := 38) (args := [.ref e, sI ((kb : Int)), sI ((b : Int)), sI ((s : Int))]) (st := []) (v := some (sI (pSeem (hI h (e + 2)) n kb b s))) (h1 := h) rfl ⟨rfl, rfl⟩ rfl rfl rfl rfl (sRcv hh (ea_t he) rfl) rfl (fSeemAs hh he hn h6b hb hs) ?_
          refine sP 2 (g1 := (29, [some (.ref e), some (sI ((a : Int))), some (sI ((b : Int))), some (sI ((s : Int))), some (sI (pSeem (hI h (e + 2)) n ka a s)), some (sI (pSeem (hI h (e + 2)) n kb b s))], [sI (pSeem (hI h (e + 2)) n ka a s)], h)) rfl ?_
          refine s_ifc (q := .eq) (a := pSeem (hI h (e + 2)) n ka a s) rfl ⟨_, rfl⟩ rfl (by unfold sR aMi aMa; omega) (fun hc5 => ?_) (fun hc5 => ?_)
          · have hc5 : ((pSeem (hI h (e + 2)) n ka a s) : Int) = 0 := hc5
            refine sP 2 (g1 := (38, [some (.ref e), some (sI ((a : Int))), some (sI ((b : Int))), some (sI ((s : Int))), some (sI (pSeem (hI h (e + 2)) n ka a s)), some (sI (pSeem (hI h (e + 2)) n kb b s))], [sI ((-1))], h)) rfl ?_
            exact s_reti rfl rfl (Or.inl rfl) (by unfold pAp; rw [if_pos ⟨ua, ub⟩]; first | rw [if_pos (by omega)] | rw [if_neg (by omega)]) rfl
          · have hc5 : ¬ (((pSeem (hI h (e + 2)) n ka a s) : Int) = 0) := hc5
            refine sP 1 (g1 := (31, [some (.ref e), some (sI ((a : Int))), some (sI ((b : Int))), some (sI ((s : Int))), some (sI (pSeem (hI h (e + 2)) n ka a s)), some (sI (pSeem (hI h (e + 2)) n kb b s))], [sI (pSeem (hI h (e + 2)) n kb b s)], h)) rfl ?_
            refine s_ifc (q := .ne) (a := pSeem (hI h (e + 2)) n kb b s) rfl ⟨_, rfl⟩ rfl (by unfold sR aMi aMa; omega) (fun hc6 => ?_) (fun hc6 => ?_)
            · have hc6 : ((pSeem (hI h (e + 2)) n kb b s) : Int) ≠ 0 := hc6
              refine sP 2 (g1 := (36, [some (.ref e), some (sI ((a : Int))), some (sI ((b : Int))), some (sI ((s : Int))), some (sI (pSeem (hI h (e + 2)) n ka a s)), some (sI (pSeem (hI h (e + 2)) n kb b s))], [sI (pSeem (hI h (e + 2)) n kb b s), sI (pSeem (hI h (e + 2)) n ka a s)], h)) rfl ?_
              refine s_sub (a := pSeem (hI h (e + 2)) n ka a s) (b := pSeem (hI h (e + 2)) n kb b s) rfl rfl ?_
              refine s_call (k := 67) (args := [sI ((pSeem (hI h (e + 2)) n ka a s) - (pSeem (hI h (e + 2)) n kb b s))]) (st := []) (v := some (sI (pDi (pSeem (hI h (e + 2)) n ka a s) (pSeem (hI h (e + 2)) n kb b s)))) (h1 := h) rfl ⟨rfl, rfl⟩ rfl rfl rfl rfl rfl rfl (fAbsX (by omega) (by omega) (by omega) (by omega)) ?_
              exact s_reti rfl rfl (Or.inl rfl) (by unfold pAp; rw [if_pos ⟨ua, ub⟩]; first | rw [if_pos (by omega)] | rw [if_neg (by omega)]) rfl
            · have hc6 : ¬ (((pSeem (hI h (e + 2)) n kb b s) : Int) ≠ 0) := hc6
              refine sP 2 (g1 := (38, [some (.ref e), some (sI ((a : Int))), some (sI ((b : Int))), some (sI ((s : Int))), some (sI (pSeem (hI h (e + 2)) n ka a s)), some (sI (pSeem (hI h (e + 2)) n kb b s))], [sI ((-1))], h)) rfl ?_
              exact s_reti rfl rfl (Or.inl rfl) (by unfold pAp; rw [if_pos ⟨ua, ub⟩]; first | rw [if_pos (by omega)] | rw [if_neg (by omega)]) rfl
        · have hc4 : ¬ ((1 : Int) ≠ 0) := hc4
          omega
    · have ee : pAp (pSeem (hI h (e + 2)) n ka a s) (pSeem (hI h (e + 2)) n kb b s) (bt s a) (bt s b) = -1 := by unfold pAp; rw [if_neg (fun q => ub q.2)]
      rw [ee]
      refine sP 2 (g1 := (2, [some (.ref e), some (sI ((a : Int))), some (sI ((b : Int))), some (sI ((s : Int))), none, none], [sI ((a : Int)), sI ((s : Int))], h)) rfl ?_
      have ev1 := fIsIn (sc := sc) (d := d + 2) (h := h) (s := s) (a := a) hs ha
      rw [if_pos ua] at ev1
      refine s_call (k := 39) (args := [sI ((s : Int)), sI ((a : Int))]) (st := []) (v := some (sI 1)) (h1 := h) rfl ⟨rfl, rfl⟩ rfl rfl rfl rfl rfl rfl ev1 ?_
      refine s_ifc (q := .eq) (a := 1) rfl ⟨_, rfl⟩ rfl (by unfold sR aMi aMa; omega) (fun hc2 => ?_) (fun hc2 => ?_)
      · have hc2 : (1 : Int) = 0 := hc2
        omega
      · have hc2 : ¬ ((1 : Int) = 0) := hc2
        refine sP 2 (g1 := (6, [some (.ref e), some (sI ((a : Int))), some (sI ((b : Int))), some (sI ((s : Int))), none, none], [sI ((b : Int)), sI ((s : Int))], h)) rfl ?_
        have ev3 := fIsIn (sc := sc) (d := d + 2) (h := h) (s := s) (a := b) hs hb
        rw [if_neg ub] at ev3
        refine s_call (k := 39) (args := [sI ((s : Int)), sI ((b : Int))]) (st := []) (v := some (sI 0)) (h1 := h) rfl ⟨rfl, rfl⟩ rfl rfl rfl rfl rfl rfl ev3 ?_
        refine s_ifc (q := .ne) (a := 0) rfl ⟨_, rfl⟩ rfl (by unfold sR aMi aMa; omega) (fun hc4 => ?_) (fun hc4 => ?_)
        · have hc4 : (0 : Int) ≠ 0 := hc4
          omega
        · have hc4 : ¬ ((0 : Int) ≠ 0) := hc4
          refine sP 1 (g1 := (9, [some (.ref e), some (sI ((a : Int))), some (sI ((b : Int))), some (sI ((s : Int))), none, none], [sI ((-1))], h)) rfl ?_
          exact s_reti rfl rfl (Or.inl rfl) rfl rfl
  · have ee : pAp (pSeem (hI h (e + 2)) n ka a s) (pSeem (hI h (e + 2)) n kb b s) (bt s a) (bt s b) = -1 := by unfold pAp; rw [if_neg (fun q => ua q.1)]
    rw [ee]
    refine sP 2 (g1 := (2, [some (.ref e), some (sI ((a : Int))), some (sI ((b : Int))), some (sI ((s : Int))), none, none], [sI ((a : Int)), sI ((s : Int))], h)) rfl ?_
    have ev1 := fIsIn (sc := sc) (d := d + 2) (h := h) (s := s) (a := a) hs ha
    rw [if_neg ua] at ev1
    refine s_call (k := 39) (args := [sI ((s : Int)), sI ((a : Int))]) (st := []) (v := some (sI 0)) (h1 := h) rfl ⟨rfl, rfl⟩ rfl rfl rfl rfl rfl rfl ev1 ?_
    refine s_ifc (q := .eq) (a := 0) rfl ⟨_, rfl⟩ rfl (by unfold sR aMi aMa; omega) (fun hc2 => ?_) (fun hc2 => ?_)
    · have hc2 : (0 : Int) = 0 := hc2
      refine sP 1 (g1 := (9, [some (.ref e), some (sI ((a : Int))), some (sI ((b : Int))), some (sI ((s : Int))), none, none], [sI ((-1))], h)) rfl ?_
      exact s_reti rfl rfl (Or.inl rfl) rfl rfl
    · have hc2 : ¬ ((0 : Int) = 0) := hc2
      omega
theorem pAp_rg {x y : Int} {u v : Bool} (x0 : 0 ≤ x) (x1 : x ≤ 54) (y0 : 0 ≤ y) (y1 : y ≤ 54) : -1 ≤ pAp x y u v ∧ pAp x y u v ≤ 54 := by
  unfold pAp pDi
  (repeat' split) <;> omega
theorem fAgreed {e n a b s ka kb : Nat} (hh : aHp h) (he : e ∈ eAd) (hn : hI h e 3 = n) (ha : a < 6) (hb : b < 6) (hs : s < 64) (hka : hI h (e + 1) a = ka) (hkb : hI h (e + 1) b = kb) : nEv sc (d + 5) 65 [.ref e, sI (a : Int), sI (b : Int), sI (s : Int)] h (some (sI (if pAg (pSeem (hI h (e + 2)) n ka a s) (pSeem (hI h (e + 2)) n kb b s) (bt s a) (bt s b) = true then 1 else 0)), h) := by
  have nn := hI_rg hh (ea_p he)
  have ra := pSeem_rg (n := n) (kd := ka) (s := s) (eG hh he) ha (by omega)
  have rb := pSeem_rg (n := n) (kd := kb) (s := s) (eG hh he) hb (by omega)
  have rp := pAp_rg (u := bt s a) (v := bt s b) ra.1 ra.2 rb.1 rb.2
  have ag := pAg_ap (u := bt s a) (v := bt s b) ra.1 rb.1
  have ev := fApart (sc := sc) (d := d) hh he hn ha hb hs hka hkb
  refine nEv_of (t := mMe65) rfl ?_
  show nRn sc (d + 4) (mMT mMe65) (mMC mMe65) (0, [some (.ref e), some (sI (a : Int)), some (sI (b : Int)), some (sI (s : Int)), none], [], h) _
  generalize pAp (pSeem (hI h (e + 2)) n ka a s) (pSeem (hI h (e + 2)) n kb b s) (bt s a) (bt s b) = z at *
  refine sP 4 (g1 := (4, [some (.ref e), some (sI ((a : Int))), some (sI ((b : Int))), some (sI ((s : Int))), none], [sI ((s : Int)), sI ((b : Int)), sI ((a : Int)), .ref e], h)) rfl ?_
  refine s_call (k := 66) (args := [.ref e, sI ((a : Int)), sI ((b : Int)), sI ((s : Int))]) (st := []) (v := some (sI z)) (h1 := h) rfl ⟨rfl, rfl⟩ rfl rfl rfl rfl (sRcv hh (ea_t he) rfl) rfl ev ?_
  refine sP 2 (g1 := (7, [some (.ref e), some (sI ((a : Int))), some (sI ((b : Int))), some (sI ((s : Int))), some (sI z)], [sI z], h)) rfl ?_
  refine s_ifc (q := .eq) (a := z) rfl ⟨_, rfl⟩ rfl (by unfold sR aMi aMa; omega) (fun hc1 => ?_) (fun hc1 => ?_)
  · have hc1 : (z : Int) = 0 := hc1
    refine sP 2 (g1 := (14, [some (.ref e), some (sI ((a : Int))), some (sI ((b : Int))), some (sI ((s : Int))), some (sI z)], [sI 1], h)) rfl ?_
    exact s_reti rfl rfl (Or.inr ⟨rfl, by omega⟩) (by first | rw [if_pos (ag.mpr (by omega))] | rw [if_neg (fun q => by have := ag.mp q; omega)]) rfl
  · have hc1 : ¬ ((z : Int) = 0) := hc1
    refine sP 2 (g1 := (10, [some (.ref e), some (sI ((a : Int))), some (sI ((b : Int))), some (sI ((s : Int))), some (sI z)], [sI 1, sI z], h)) rfl ?_
    refine s_icmp (q := .ne) (a := z) (b := 1) rfl ⟨_, rfl⟩ rfl (by unfold sR aMi aMa; omega) (by unfold sR aMi aMa; omega) (fun hc2 => ?_) (fun hc2 => ?_)
    · have hc2 : (z : Int) ≠ 1 := hc2
      refine sP 1 (g1 := (14, [some (.ref e), some (sI ((a : Int))), some (sI ((b : Int))), some (sI ((s : Int))), some (sI z)], [sI 0], h)) rfl ?_
      exact s_reti rfl rfl (Or.inr ⟨rfl, by omega⟩) (by first | rw [if_pos (ag.mpr (by omega))] | rw [if_neg (fun q => by have := ag.mp q; omega)]) rfl
    · have hc2 : ¬ ((z : Int) ≠ 1) := hc2
      refine sP 2 (g1 := (14, [some (.ref e), some (sI ((a : Int))), some (sI ((b : Int))), some (sI ((s : Int))), some (sI z)], [sI 1], h)) rfl ?_
      exact s_reti rfl rfl (Or.inr ⟨rfl, by omega⟩) (by first | rw [if_pos (ag.mpr (by omega))] | rw [if_neg (fun q => by have := ag.mp q; omega)]) rfl
theorem fSeemM {n a s ka : Nat} (hh : aHp h) (hn : hI h 58 0 = n) (ha : a < 6) (hs : s < 64) (hka : hI h 58 (1 + a) = ka) : nEv sc (d + 3) 150 [.ref 53, sI (a : Int), sI (s : Int)] h (some (sI (pSeem (fun j => hI h 58 (7 + j)) n ka a s)), h) := by
  have rka := hI_rg hh (nw_kd ha)
  have h6 : ka < 6 := by omega
  refine nEv_of (t := mMe150) rfl ?_
  show nRn sc (d + 2) (mMT mMe150) (mMC mMe150) (0, [some (.ref 53), some (sI ((a : Int))), some (sI ((s : Int)))], [], h) _
  refine sP 3 (g1 := (3, [some (.ref 53), some (sI ((a : Int))), some (sI ((s : Int)))], [.ref 53, sI ((a : Int)), .ref 53], h)) rfl ?_
  refine s_get (a := 53) (j := 4) hh rfl ⟨_, rfl⟩ rfl rfl rfl (v := .ref 58) (hR_ok hh (by decide +kernel)) ?_
  refine sP 2 (g1 := (6, [some (.ref 53), some (sI ((a : Int))), some (sI ((s : Int)))], [sI ((a : Int)), sI 1, .ref 58, sI ((a : Int)), .ref 53], h)) rfl ?_
  refine s_add (a := 1) (b := (a : Int)) rfl rfl ?_
  refine s_iald (a := 58) (n := 201) (j := 1 + ((a : Int))) hh rfl rfl rfl (by omega) (by omega) (by decide) (v := sI ((ka : Int))) (by rw [show (1 + ((a : Int))).toNat = 1 + a by omega]; have q := hI_ok hh (nw_kd ha); rw [hka] at q; exact q) ?_
  refine sP 1 (g1 := (9, [some (.ref 53), some (sI ((a : Int))), some (sI ((s : Int)))], [sI ((s : Int)), sI ((ka : Int)), sI ((a : Int)), .ref 53], h)) rfl ?_
  refine s_call (k := 151) (args := [.ref 53, sI ((a : Int)), sI ((ka : Int)), sI ((s : Int))]) (st := []) (v := some (sI (pSeem (fun j => hI h 58 (7 + j)) n ka a s))) (h1 := h) rfl ⟨rfl, rfl⟩ rfl rfl rfl rfl (sRcv hh (a := 53) rfl rfl) rfl (fSeemAsM hh hn h6 ha hs) ?_
  exact s_reti rfl rfl (Or.inl rfl) rfl rfl
theorem pDi_rg {x y : Int} (x0 : 0 ≤ x) (x1 : x ≤ 54) (y0 : 0 ≤ y) (y1 : y ≤ 54) : 0 ≤ pDi x y ∧ pDi x y ≤ 54 := by
  unfold pDi
  split <;> omega
theorem fDoAgree {n a b s ka kb : Nat} (hh : aHp h) (hn : hI h 58 0 = n) (ha : a < 6) (hb : b < 6) (hs : s < 64) (hka : hI h 58 (1 + a) = ka) (hkb : hI h 58 (1 + b) = kb) : nEv sc (d + 4) 171 [.ref 53, sI (a : Int), sI (b : Int), sI (s : Int)] h (some (sI (if pAg (pSeem (fun j => hI h 58 (7 + j)) n ka a s) (pSeem (fun j => hI h 58 (7 + j)) n kb b s) true true = true then 1 else 0)), h) := by
  have nn := hI_rg hh nw_p
  have ra := pSeem_rg (n := n) (kd := ka) (s := s) (mGk hh) ha (by omega)
  have rb := pSeem_rg (n := n) (kd := kb) (s := s) (mGk hh) hb (by omega)
  have rd := pDi_rg ra.1 ra.2 rb.1 rb.2
  refine nEv_of (t := mMe171) rfl ?_
  show nRn sc (d + 3) (mMT mMe171) (mMC mMe171) (0, [some (.ref 53), some (sI ((a : Int))), some (sI ((b : Int))), some (sI ((s : Int))), none, none], [], h) _
  refine sP 3 (g1 := (3, [some (.ref 53), some (sI ((a : Int))), some (sI ((b : Int))), some (sI ((s : Int))), none, none], [sI ((s : Int)), sI ((a : Int)), .ref 53], h)) rfl ?_
  refine s_call (k := 150) (args := [.ref 53, sI ((a : Int)), sI ((s : Int))]) (st := []) (v := some (sI (pSeem (fun j => hI h 58 (7 + j)) n ka a s))) (h1 := h) rfl ⟨rfl, rfl⟩ rfl rfl rfl rfl (sRcv hh (a := 53) rfl rfl) rfl (fSeemM hh hn ha hs hka) ?_
  refine sP 4 (g1 := (8, [some (.ref 53), some (sI ((a : Int))), some (sI ((b : Int))), some (sI ((s : Int))), some (sI (pSeem (fun j => hI h 58 (7 + j)) n ka a s)), none], [sI ((s : Int)), sI ((b : Int)), .ref 53], h)) rfl ?_
  refine s_call (k := 150) (args := [.ref 53, sI ((b : Int)), sI ((s : Int))]) (st := []) (v := some (sI (pSeem (fun j => hI h 58 (7 + j)) n kb b s))) (h1 := h) rfl ⟨rfl, rfl⟩ rfl rfl rfl rfl (sRcv hh (a := 53) rfl rfl) rfl (fSeemM hh hn hb hs hkb) ?_
  refine sP 2 (g1 := (11, [some (.ref 53), some (sI ((a : Int))), some (sI ((b : Int))), some (sI ((s : Int))), some (sI (pSeem (fun j => hI h 58 (7 + j)) n ka a s)), some (sI (pSeem (fun j => hI h 58 (7 + j)) n kb b s))], [sI (pSeem (fun j => hI h 58 (7 + j)) n ka a s)], h)) rfl ?_
  refine s_ifc (q := .le) (a := pSeem (fun j => hI h 58 (7 + j)) n ka a s) rfl ⟨_, rfl⟩ rfl (by unfold sR aMi aMa; omega) (fun hc1 => ?_) (fun hc1 => ?_)
  · have hc1 : ((pSeem (fun j => hI h 58 (7 + j)) n ka a s) : Int) ≤ 0 := hc1
    refine sP 1 (g1 := (23, [some (.ref 53), some (sI ((a : Int))), some (sI ((b : Int))), some (sI ((s : Int))), some (sI (pSeem (fun j => hI h 58 (7 + j)) n ka a s)), some (sI (pSeem (fun j => hI h 58 (7 + j)) n kb b s))], [sI 0], h)) rfl ?_
    exact s_reti rfl rfl (Or.inr ⟨rfl, by omega⟩) (by unfold pAg; simp only [Bool.true_and, Bool.and_eq_true, decide_eq_true_eq]; first | rw [if_pos (by omega)] | rw [if_neg (by omega)]) rfl
  · have hc1 : ¬ (((pSeem (fun j => hI h 58 (7 + j)) n ka a s) : Int) ≤ 0) := hc1
    refine sP 1 (g1 := (13, [some (.ref 53), some (sI ((a : Int))), some (sI ((b : Int))), some (sI ((s : Int))), some (sI (pSeem (fun j => hI h 58 (7 + j)) n ka a s)), some (sI (pSeem (fun j => hI h 58 (7 + j)) n kb b s))], [sI (pSeem (fun j => hI h 58 (7 + j)) n kb b s)], h)) rfl ?_
    refine s_ifc (q := .le) (a := pSeem (fun j => hI h 58 (7 + j)) n kb b s) rfl ⟨_, rfl⟩ rfl (by unfold sR aMi aMa; omega) (fun hc2 => ?_) (fun hc2 => ?_)
    · have hc2 : ((pSeem (fun j => hI h 58 (7 + j)) n kb b s) : Int) ≤ 0 := hc2
      refine sP 1 (g1 := (23, [some (.ref 53), some (sI ((a : Int))), some (sI ((b : Int))), some (sI ((s : Int))), some (sI (pSeem (fun j => hI h 58 (7 + j)) n ka a s)), some (sI (pSeem (fun j => hI h 58 (7 + j)) n kb b s))], [sI 0], h)) rfl ?_
      exact s_reti rfl rfl (Or.inr ⟨rfl, by omega⟩) (by unfold pAg; simp only [Bool.true_and, Bool.and_eq_true, decide_eq_true_eq]; first | rw [if_pos (by omega)] | rw [if_neg (by omega)]) rfl
    · have hc2 : ¬ (((pSeem (fun j => hI h 58 (7 + j)) n kb b s) : Int) ≤ 0) := hc2
      refine sP 2 (g1 := (16, [some (.ref 53), some (sI ((a : Int))), some (sI ((b : Int))), some (sI ((s : Int))), some (sI (pSeem (fun j => hI h 58 (7 + j)) n ka a s)), some (sI (pSeem (fun j => hI h 58 (7 + j)) n kb b s))], [sI (pSeem (fun j => hI h 58 (7 + j)) n kb b s), sI (pSeem (fun j => hI h 58 (7 + j)) n ka a s)], h)) rfl ?_
      refine s_sub (a := pSeem (fun j => hI h 58 (7 + j)) n ka a s) (b := pSeem (fun j => hI h 58 (7 + j)) n kb b s) rfl rfl ?_
      refine s_call (k := 172) (args := [sI ((pSeem (fun j => hI h 58 (7 + j)) n ka a s) - (pSeem (fun j => hI h 58 (7 + j)) n kb b s))]) (st := []) (v := some (sI (pDi (pSeem (fun j => hI h 58 (7 + j)) n ka a s) (pSeem (fun j => hI h 58 (7 + j)) n kb b s)))) (h1 := h) rfl ⟨rfl, rfl⟩ rfl rfl rfl rfl rfl rfl (fAbsM (by omega) (by omega) (by omega) (by omega)) ?_
      refine sP 1 (g1 := (19, [some (.ref 53), some (sI ((a : Int))), some (sI ((b : Int))), some (sI ((s : Int))), some (sI (pSeem (fun j => hI h 58 (7 + j)) n ka a s)), some (sI (pSeem (fun j => hI h 58 (7 + j)) n kb b s))], [sI 2, sI (pDi (pSeem (fun j => hI h 58 (7 + j)) n ka a s) (pSeem (fun j => hI h 58 (7 + j)) n kb b s))], h)) rfl ?_
      refine s_icmp (q := .ge) (a := pDi (pSeem (fun j => hI h 58 (7 + j)) n ka a s) (pSeem (fun j => hI h 58 (7 + j)) n kb b s)) (b := 2) rfl ⟨_, rfl⟩ rfl (by unfold sR aMi aMa; omega) (by unfold sR aMi aMa; omega) (fun hc3 => ?_) (fun hc3 => ?_)
      · have hc3 : (2 : Int) ≤ (pDi (pSeem (fun j => hI h 58 (7 + j)) n ka a s) (pSeem (fun j => hI h 58 (7 + j)) n kb b s)) := hc3
        refine sP 1 (g1 := (23, [some (.ref 53), some (sI ((a : Int))), some (sI ((b : Int))), some (sI ((s : Int))), some (sI (pSeem (fun j => hI h 58 (7 + j)) n ka a s)), some (sI (pSeem (fun j => hI h 58 (7 + j)) n kb b s))], [sI 0], h)) rfl ?_
        exact s_reti rfl rfl (Or.inr ⟨rfl, by omega⟩) (by unfold pAg; simp only [Bool.true_and, Bool.and_eq_true, decide_eq_true_eq]; first | rw [if_pos (by omega)] | rw [if_neg (by omega)]) rfl
      · have hc3 : ¬ ((2 : Int) ≤ (pDi (pSeem (fun j => hI h 58 (7 + j)) n ka a s) (pSeem (fun j => hI h 58 (7 + j)) n kb b s))) := hc3
        refine sP 2 (g1 := (23, [some (.ref 53), some (sI ((a : Int))), some (sI ((b : Int))), some (sI ((s : Int))), some (sI (pSeem (fun j => hI h 58 (7 + j)) n ka a s)), some (sI (pSeem (fun j => hI h 58 (7 + j)) n kb b s))], [sI 1], h)) rfl ?_
        exact s_reti rfl rfl (Or.inr ⟨rfl, by omega⟩) (by unfold pAg; simp only [Bool.true_and, Bool.and_eq_true, decide_eq_true_eq]; first | rw [if_pos (by omega)] | rw [if_neg (by omega)]) rfl
end AGR

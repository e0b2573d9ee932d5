def pe (k : Nat × Nat → Int32) (z : Int32) : Option (Nat × Nat) → Int32
  | none => z
  | some q => k q
def pnx (d : Nat → Nat → Nat) (u j : Nat) : Option (Nat × Nat) → Option (Nat × Nat)
  | none => some (u, j)
  | some q => if d q.1 q.2 ≤ d u j then some q else some (u, j)
def pst (o : Nat → Int32) (d : Nat → Nat → Nat) (u j : Nat) (s : Option (Nat × Nat)) : Option (Nat × Nat) := if o u = 0 then s else if o j = 0 then s else pnx d u j s
def pOK (n : Nat) (s : Option (Nat × Nat)) : Prop := ∀ q, s = some q → q.1 < n ∧ q.2 < n
theorem pst_ok {n : Nat} {o : Nat → Int32} {d : Nat → Nat → Nat} {u j : Nat} (hu : u < n) (hj : j < n) {s : Option (Nat × Nat)} (h : pOK n s) : pOK n (pst o d u j s) := by
  unfold pst
  split
  · exact h
  · split
    · exact h
    · cases s with
      | none => intro q e; cases e; exact ⟨hu, hj⟩
      | some q =>
        unfold pnx
        dsimp only
        split
        · exact h
        · intro q e; cases e; exact ⟨hu, hj⟩
theorem pairC_in {n : Nat} {d : Nat → Nat → Nat} {g R Ls o : Nat → Int32} (E : EnvD n d g R Ls) {u : Nat} (hu : u < n) {s : Option (Nat × Nat)} (h : pOK n s) : lp (fX0_closestTwo_L29 (nI n) o g (nI u)) FU (pe (fun q => nI (d q.1 q.2)) 1000000 s, pe (fun q => nI q.1) (-1) s, pe (fun q => nI q.2) (-1) s, nI (u + 1)) = some (pe (fun q => nI (d q.1 q.2)) 1000000 (itr (pst o d u) (u + 1) (n - (u + 1)) s), pe (fun q => nI q.1) (-1) (itr (pst o d u) (u + 1) (n - (u + 1)) s), pe (fun q => nI q.2) (-1) (itr (pst o d u) (u + 1) (n - (u + 1)) s), nI n) ∧ pOK n (itr (pst o d u) (u + 1) (n - (u + 1)) s) := by
  obtain ⟨n1, h60, eg, ef, sy, le⟩ := E
  refine lp_for (F := fX0_closestTwo_L29 (nI n) o g (nI u)) (fun i s => (pe (fun q => nI (d q.1 q.2)) 1000000 s, pe (fun q => nI q.1) (-1) s, pe (fun q => nI q.2) (-1) s, nI i)) (pst o d u) (fun _ s => pOK n s) n (fun s => some (pe (fun q => nI (d q.1 q.2)) 1000000 s, pe (fun q => nI q.1) (-1) s, pe (fun q => nI q.2) (-1) s, nI n)) (fun k s _ => ?_) (fun k i s hi hs => ?_) (n - (u + 1)) FU (u + 1) s (by omega) (FU_lt (by omega)) h
  · dsimp only [fX0_closestTwo_L29]
    rw [if_pos (Int32.le_refl _)]
  · refine ⟨?_, pst_ok hu hi hs⟩
    have hd := le u i hu hi
    dsimp only [fX0_closestTwo_L29, fX0_closestTwo_J101]
    unfold pst
    rw [if_neg (nI_ge hi (by omega)), if_pos (gI_n (show u < 60 by omega) (by decide)), nI_clamp (show u < 2 ^ 31 by omega), if_pos (gI_n (show i < 60 by omega) (by decide)), nI_clamp (show i < 2 ^ 31 by omega), eg u i hu hi, bd_s, nI_1]
    by_cases e1 : o u = 0
    · rw [if_pos e1, if_pos e1]
    · rw [if_neg e1, if_neg e1]
      by_cases e2 : o i = 0
      · rw [if_pos e2, if_pos e2]
      · rw [if_neg e2, if_neg e2]
        cases s with
        | none => rw [if_neg (show ¬ pe (fun q => nI (d q.1 q.2)) 1000000 none ≤ nI (d u i) from nI_ge (a := d u i) (b := 1000000) (by omega) (by decide)), bd_s]; rfl
        | some q =>
          obtain ⟨q1, q2⟩ := hs q rfl
          have hq := le q.1 q.2 q1 q2
          unfold pnx
          by_cases z : d q.1 q.2 ≤ d u i
          · rw [if_pos (show pe (fun q => nI (d q.1 q.2)) 1000000 (some q) ≤ nI (d u i) from nI_le z (by omega))]
            simp only [if_pos z]
          · rw [if_neg (show ¬ pe (fun q => nI (d q.1 q.2)) 1000000 (some q) ≤ nI (d u i) from nI_ge (by omega) (by omega)), bd_s]
            simp only [if_neg z]
            rfl
theorem pairM_in {n : Nat} {d : Nat → Nat → Nat} {g R Ls o mo : Nat → Int32} (E : EnvD n d g R Ls) (ho : ∀ v, v < n → mo v = o v) {u : Nat} (hu : u < n) {s : Option (Nat × Nat)} (h : pOK n s) : lp (fX9_pair_L42 (nI n) R Ls mo (nI u)) FU (pe (fun q => nI q.1) (-1) s, pe (fun q => nI q.2) (-1) s, pe (fun q => nI (d q.1 q.2)) (-1) s, nI (u + 1)) = some (pe (fun q => nI q.1) (-1) (itr (pst o d u) (u + 1) (n - (u + 1)) s), pe (fun q => nI q.2) (-1) (itr (pst o d u) (u + 1) (n - (u + 1)) s), pe (fun q => nI (d q.1 q.2)) (-1) (itr (pst o d u) (u + 1) (n - (u + 1)) s), nI n) ∧ pOK n (itr (pst o d u) (u + 1) (n - (u + 1)) s) := by
  obtain ⟨n1, h60, eg, ef, sy, le⟩ := E
  refine lp_for (F := fX9_pair_L42 (nI n) R Ls mo (nI u)) (fun i s => (pe (fun q => nI q.1) (-1) s, pe (fun q => nI q.2) (-1) s, pe (fun q => nI (d q.1 q.2)) (-1) s, nI i)) (pst o d u) (fun _ s => pOK n s) n (fun s => some (pe (fun q => nI q.1) (-1) s, pe (fun q => nI q.2) (-1) s, pe (fun q => nI (d q.1 q.2)) (-1) s, nI n)) (fun k s _ => ?_) (fun k i s hi hs => ?_) (n - (u + 1)) FU (u + 1) s (by omega) (FU_lt (by omega)) h
  · dsimp only [fX9_pair_L42]
    rw [if_pos (Int32.le_refl _)]
  · refine ⟨?_, pst_ok hu hi hs⟩
    have hd := le u i hu hi
    dsimp only [fX9_pair_L42, fX9_pair_J106, fX9_pair_J90]
    unfold pst
    rw [if_neg (nI_ge hi (by omega)), if_pos (gI_n (show u < 60 by omega) (by decide)), nI_clamp (show u < 2 ^ 31 by omega), if_pos (gI_n (show i < 60 by omega) (by decide)), nI_clamp (show i < 2 ^ 31 by omega), ef u i hu hi, bd_s, bd_s, nI_1, ho u hu, ho i hi]
    by_cases e1 : o u = 0
    · rw [if_pos e1, if_pos e1]
    · rw [if_neg e1, if_neg e1]
      by_cases e2 : o i = 0
      · rw [if_pos e2, if_pos e2]
      · rw [if_neg e2, if_neg e2]
        cases s with
        | none => rw [if_pos (show pe (fun q => nI (d q.1 q.2)) (-1) none = -1 from rfl)]; rfl
        | some q =>
          obtain ⟨q1, q2⟩ := hs q rfl
          have hq := le q.1 q.2 q1 q2
          rw [if_neg (show ¬ pe (fun q => nI (d q.1 q.2)) (-1) (some q) = -1 from nI_nm1 (by omega))]
          unfold pnx
          by_cases z : d q.1 q.2 ≤ d u i
          · rw [if_pos (show pe (fun q => nI (d q.1 q.2)) (-1) (some q) ≤ nI (d u i) from nI_le z (by omega))]
            simp only [if_pos z]
          · rw [if_neg (show ¬ pe (fun q => nI (d q.1 q.2)) (-1) (some q) ≤ nI (d u i) from nI_ge (by omega) (by omega))]
            simp only [if_neg z]
            rfl
set_option maxRecDepth 20000 in
theorem op_pair {cBad cFul cCnt cOpc cTsz cLsz mVil mBad mFul mLen mSig : Int32} {cRts cLns cOpn cGps cByt cSgn mRts mLns mOpn mTxt mAns : Nat → Int32} (h : Rel cBad cFul cCnt cOpc cTsz cLsz cRts cLns cOpn cGps cByt cSgn mVil mBad mFul mLen mSig mRts mLns mOpn mTxt mAns) (p0 : Int32) : ∃ (rv : Int32) (zcBad : Int32) (zmBad : Int32), fX8_pair cBad cCnt cOpn cGps p0 = some (rv, zcBad) ∧ fX9_pair mVil mBad mRts mLns mOpn p0 = some (rv, zmBad) ∧ Rel zcBad cFul cCnt cOpc cTsz cLsz cRts cLns cOpn cGps cByt cSgn mVil zmBad mFul mLen mSig mRts mLns mOpn mTxt mAns := by
  obtain ⟨hB, hU, ⟨n, rt, ln, hL⟩, hT, hA⟩ := h
  subst hB hU
  obtain ⟨h1, h60, hc, hm, hrt, hr0, hm0, hl0, hop, hrest⟩ := id hL
  subst hc hm
  have ho := fun w hw => (hop w hw).2
  have E := hL.env
  have e2 : (2 : Int32).toInt = 2 := by decide
  have e2' : (2 : Int64).toInt = 2 := by decide
  have e0' : (0 : Int64).toInt = 0 := by decide
  by_cases a0 : 0 ≤ p0.toInt ∧ p0.toInt ≤ 2
  · have c1 := lp_for (F := fX0_closestTwo_L11 (nI n) cOpn cGps) (fun i s => (pe (fun q => nI (dist rt ln q.1 q.2)) 1000000 s, pe (fun q => nI q.1) (-1) s, pe (fun q => nI q.2) (-1) s, nI i)) (fun i s => itr (pst cOpn (dist rt ln) i) (i + 1) (n - (i + 1)) s) (fun _ s => pOK n s) n (fun s => some (pe (fun q => nI (dist rt ln q.1 q.2)) 1000000 s, pe (fun q => nI q.1) (-1) s, pe (fun q => nI q.2) (-1) s, nI n)) (fun k s _ => by
      dsimp only [fX0_closestTwo_L11]
      rw [if_pos (Int32.le_refl _)]) (fun k i s hi hs => by
      obtain ⟨z1, z2⟩ := pairC_in (o := cOpn) E hi hs
      refine ⟨?_, z2⟩
      dsimp only [fX0_closestTwo_L11]
      rw [if_neg (nI_ge hi (by omega)), nI_1, z1, bd_s]) n FU 0 none (by omega) (FU_lt (by omega)) (fun q e => by cases e)
    have c2 := lp_for (F := fX9_pair_L27 (nI n) mRts mLns mOpn) (fun i s => (pe (fun q => nI q.1) (-1) s, pe (fun q => nI q.2) (-1) s, pe (fun q => nI (dist rt ln q.1 q.2)) (-1) s, nI i)) (fun i s => itr (pst cOpn (dist rt ln) i) (i + 1) (n - (i + 1)) s) (fun _ s => pOK n s) n (fun s => some (pe (fun q => nI q.1) (-1) s, pe (fun q => nI q.2) (-1) s, pe (fun q => nI (dist rt ln q.1 q.2)) (-1) s, nI n)) (fun k s _ => by
      dsimp only [fX9_pair_L27]
      rw [if_pos (Int32.le_refl _)]) (fun k i s hi hs => by
      obtain ⟨z1, z2⟩ := pairM_in (o := cOpn) E ho hi hs
      refine ⟨?_, z2⟩
      dsimp only [fX9_pair_L27]
      rw [if_neg (nI_ge hi (by omega)), nI_1, z1, bd_s]) n FU 0 none (by omega) (FU_lt (by omega)) (fun q e => by cases e)
    generalize itr (fun i s => itr (pst cOpn (dist rt ln) i) (i + 1) (n - (i + 1)) s) 0 n none = x at c1 c2
    obtain ⟨c1, hx⟩ := c1
    refine ⟨if p0 = 0 then pe (fun q => nI (dist rt ln q.1 q.2)) (-1) x else if p0 = 1 then pe (fun q => nI q.1) (-1) x else pe (fun q => nI q.2) (-1) x, mBad, mBad, ?_, ?_, rfl, rfl, ⟨n, rt, ln, hL⟩, hT, hA⟩
    · simp only [fX8_pair, fX0_closestTwo, upto_e, e2, if_pos a0, bd_s, if_neg i1_0]
      rw [show ((1000000 : Int32), (-1 : Int32), (-1 : Int32), (0 : Int32)) = (pe (fun q => nI (dist rt ln q.1 q.2)) 1000000 none, pe (fun q => nI q.1) (-1) none, pe (fun q => nI q.2) (-1) none, nI 0) from rfl, c1, bd_s]
      cases x with
      | none =>
        dsimp only
        rw [if_pos (show pe (fun q => nI q.1) (-1) none = -1 from rfl)]
        split
        · rfl
        · split <;> rfl
      | some q =>
        obtain ⟨q1, q2⟩ := hx q rfl
        dsimp only
        rw [if_neg (show ¬ pe (fun q => nI q.1) (-1) (some q) = -1 from nI_nm1 (by omega))]
        split
        · rfl
        · split <;> rfl
    · simp only [fX9_pair, in_l _ _ _ e0' e2', if_pos a0, bd_s, if_neg i1_0]
      rw [show ((-1 : Int32), (-1 : Int32), (-1 : Int32), (0 : Int32)) = (pe (fun q => nI q.1) (-1) none, pe (fun q => nI q.2) (-1) none, pe (fun q => nI (dist rt ln q.1 q.2)) (-1) none, nI 0) from rfl, c2.1, bd_s]
      dsimp only
      split
      · rfl
      · split <;> rfl
  · refine ⟨-2, mBad + 1, mBad + 1, ?_, ?_, rfl, rfl, ⟨n, rt, ln, hL⟩, hT, hA⟩
    · simp only [fX8_pair, fX8_refuseBad, upto_e, e2, if_neg a0, bd_s, if_true]
    · simp only [fX9_pair, fX9_refuse, in_l _ _ _ e0' e2', if_neg a0, bd_s, if_true]

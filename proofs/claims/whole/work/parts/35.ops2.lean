set_option maxRecDepth 20000 in
theorem op_add {cBad cFul cCnt cOpc cTsz cLsz mVil mBad mFul mLen mSig : Int32} {cRts cLns cOpn cGps cByt cSgn mRts mLns mOpn mTxt mAns : Nat → Int32} (h : Rel cBad cFul cCnt cOpc cTsz cLsz cRts cLns cOpn cGps cByt cSgn mVil mBad mFul mLen mSig mRts mLns mOpn mTxt mAns) (p0 p1 : Int32) : ∃ (rv : Int32) (zcBad : Int32) (zcFul : Int32) (zcCnt : Int32) (zcRts : Nat → Int32) (zcLns : Nat → Int32) (zcOpn : Nat → Int32) (zcGps : Nat → Int32) (zmVil : Int32) (zmBad : Int32) (zmFul : Int32) (zmRts : Nat → Int32) (zmLns : Nat → Int32) (zmOpn : Nat → Int32), fX8_add cBad cFul cCnt cRts cLns cOpn cGps p0 p1 = some (rv, zcBad, zcFul, zcCnt, zcRts, zcLns, zcOpn, zcGps) ∧ fX9_add mVil mBad mFul mRts mLns mOpn p0 p1 = some (rv, zmVil, zmBad, zmFul, zmRts, zmLns, zmOpn) ∧ Rel zcBad zcFul zcCnt cOpc cTsz cLsz zcRts zcLns zcOpn zcGps cByt cSgn zmVil zmBad zmFul mLen mSig zmRts zmLns zmOpn mTxt mAns := by
  obtain ⟨hB, hU, ⟨n, rt, ln, hL⟩, hT, hA⟩ := h
  subst hB hU
  obtain ⟨h1, h60, hc, hm, -⟩ := id hL
  subst hc hm
  have e1' : (1 : Int64).toInt = 1 := by decide
  have e99' : (99 : Int64).toInt = 99 := by decide
  by_cases a0 : 0 ≤ p0.toInt ∧ p0.toInt < n
  · by_cases a1 : 1 ≤ p1.toInt ∧ p1.toInt ≤ 99
    · obtain ⟨r, hr, rfl⟩ := exN a0.1 a0.2
      obtain ⟨x, hx, rfl⟩ := exN (k := 100) (show 0 ≤ p1.toInt by omega) (by omega)
      have a1' := a1
      rw [nI_toInt (by omega)] at a1'
      by_cases a2 : n < 60
      · obtain ⟨g', f1, f2, hL2⟩ := settle_e hL a2 hr (x := x) (by omega) (by omega)
        refine ⟨nI n, mBad, mFul, nI (n + 1), _, _, _, g', nI (n + 1), mBad, mFul, _, _, _, ?_, ?_, rfl, rfl, ⟨n + 1, _, _, hL2⟩, hT, hA⟩
        · simp only [fX8_add, has_n h60, if_pos a0, len_e, if_pos a1, bd_s, if_neg i1_0, if_pos (show nI n < (60 : Int32) from nI_lt a2 (by decide)), f1]
        · simp only [fX9_add, isV_e h1 h60, if_pos a0, in_l _ _ _ e1' e99', if_pos a1, bd_s, if_neg i1_0, if_neg (show ¬ nI n = (60 : Int32) from by rw [show (60 : Int32) = nI 60 from rfl, nI_eq (by omega) (by decide)]; omega), f2]
      · obtain rfl : n = 60 := by omega
        refine ⟨-4, mBad, mFul + 1, nI 60, cRts, cLns, cOpn, cGps, nI 60, mBad, mFul + 1, mRts, mLns, mOpn, ?_, ?_, rfl, rfl, ⟨60, rt, ln, hL⟩, hT, hA⟩
        · simp only [fX8_add, fX8_refuseFull, has_n h60, if_pos a0, len_e, if_pos a1, bd_s, if_neg i1_0, if_neg (show ¬ nI 60 < (60 : Int32) from by decide)]
        · simp only [fX9_add, fX9_refuseFull, isV_e h1 h60, if_pos a0, in_l _ _ _ e1' e99', if_pos a1, bd_s, if_neg i1_0, if_pos (show nI 60 = (60 : Int32) from rfl)]
    · refine ⟨-2, mBad + 1, mFul, nI n, cRts, cLns, cOpn, cGps, nI n, mBad + 1, mFul, mRts, mLns, mOpn, ?_, ?_, rfl, rfl, ⟨n, rt, ln, hL⟩, hT, hA⟩
      · simp only [fX8_add, fX8_add_J18, fX8_refuseBad, has_n h60, if_pos a0, len_e, if_neg a1, bd_s, if_neg i1_0, if_true]
      · simp only [fX9_add, fX9_add_J20, fX9_refuse, isV_e h1 h60, if_pos a0, in_l _ _ _ e1' e99', if_neg a1, bd_s, if_neg i1_0, if_true]
  · refine ⟨-2, mBad + 1, mFul, nI n, cRts, cLns, cOpn, cGps, nI n, mBad + 1, mFul, mRts, mLns, mOpn, ?_, ?_, rfl, rfl, ⟨n, rt, ln, hL⟩, hT, hA⟩
    · simp only [fX8_add, fX8_add_J18, fX8_refuseBad, has_n h60, if_neg a0, bd_s, if_true]
    · simp only [fX9_add, fX9_add_J20, fX9_refuse, isV_e h1 h60, if_neg a0, bd_s, if_true]
set_option maxRecDepth 20000 in
theorem op_road {cBad cFul cCnt cOpc cTsz cLsz mVil mBad mFul mLen mSig : Int32} {cRts cLns cOpn cGps cByt cSgn mRts mLns mOpn mTxt mAns : Nat → Int32} (h : Rel cBad cFul cCnt cOpc cTsz cLsz cRts cLns cOpn cGps cByt cSgn mVil mBad mFul mLen mSig mRts mLns mOpn mTxt mAns) (p0 p1 : Int32) : ∃ (rv : Int32) (zcBad : Int32) (zcLns : Nat → Int32) (zcGps : Nat → Int32) (zmBad : Int32) (zmLns : Nat → Int32), fX8_road cBad cCnt cRts cLns cGps p0 p1 = some (rv, zcBad, zcLns, zcGps) ∧ fX9_road mVil mBad mLns p0 p1 = some (rv, zmBad, zmLns) ∧ Rel zcBad cFul cCnt cOpc cTsz cLsz cRts zcLns cOpn zcGps cByt cSgn mVil zmBad mFul mLen mSig mRts zmLns mOpn mTxt mAns := by
  obtain ⟨hB, hU, ⟨n, rt, ln, hL⟩, hT, hA⟩ := h
  subst hB hU
  obtain ⟨h1, h60, hc, hm, -⟩ := id hL
  subst hc hm
  have e1' : (1 : Int64).toInt = 1 := by decide
  have e99' : (99 : Int64).toInt = 99 := by decide
  by_cases a0 : 0 ≤ p0.toInt ∧ p0.toInt < n
  · obtain ⟨v, hv, rfl⟩ := exN a0.1 a0.2
    by_cases a2 : v = 0
    · subst a2
      refine ⟨-2, mBad + 1, cLns, cGps, mBad + 1, mLns, ?_, ?_, rfl, rfl, ⟨n, rt, ln, hL⟩, hT, hA⟩
      · simp only [fX8_road, fX8_road_J22, fX8_refuseBad, has_n h60, if_pos a0, bd_s, if_neg i1_0, if_pos (show nI 0 = (0 : Int32) from rfl)]
      · simp only [fX9_road, fX9_road_J33, fX9_refuse, isV_e h1 h60, if_pos a0, bd_s, if_neg i1_0, if_pos (show nI 0 ≤ (0 : Int32) from by decide)]
    · have n0 : ¬ nI v = 0 := nI_ne0 (by omega) (by omega)
      have nle : ¬ nI v ≤ 0 := nI_nle (by omega) (by omega)
      by_cases a1 : 1 ≤ p1.toInt ∧ p1.toInt ≤ 99
      · obtain ⟨x, hx, rfl⟩ := exN (k := 100) (show 0 ≤ p1.toInt by omega) (by omega)
        have a1' := a1
        rw [nI_toInt (by omega)] at a1'
        obtain ⟨g', f1, f2, hL2⟩ := setRoad_e hL (v := v) (x := x) (by omega) hv (by omega) (by omega)
        refine ⟨nI (ln v), mBad, _, g', mBad, _, ?_, ?_, rfl, rfl, ⟨n, _, _, hL2⟩, hT, hA⟩
        · simp only [fX8_road, has_n h60, if_pos a0, len_e, if_pos a1, bd_s, if_neg i1_0, if_neg n0, f1]
        · simp only [fX9_road, isV_e h1 h60, if_pos a0, in_l _ _ _ e1' e99', if_pos a1, bd_s, if_neg i1_0, if_neg nle, f2]
      · refine ⟨-2, mBad + 1, cLns, cGps, mBad + 1, mLns, ?_, ?_, rfl, rfl, ⟨n, rt, ln, hL⟩, hT, hA⟩
        · simp only [fX8_road, fX8_road_J22, fX8_refuseBad, has_n h60, if_pos a0, len_e, if_neg a1, bd_s, if_neg i1_0, if_neg n0, if_true]
        · simp only [fX9_road, fX9_road_J33, fX9_refuse, isV_e h1 h60, if_pos a0, in_l _ _ _ e1' e99', if_neg a1, bd_s, if_neg i1_0, if_neg nle, if_true]
  · refine ⟨-2, mBad + 1, cLns, cGps, mBad + 1, mLns, ?_, ?_, rfl, rfl, ⟨n, rt, ln, hL⟩, hT, hA⟩
    · simp only [fX8_road, fX8_road_J22, fX8_refuseBad, has_n h60, if_neg a0, bd_s, if_true]
    · simp only [fX9_road, fX9_road_J33, fX9_refuse, isV_e h1 h60, if_neg a0, bd_s, if_true]
/-- how many roads a village has -/
theorem roads_e {n : Nat} (hn : n ≤ 60) (h1 : 1 ≤ n) {R M : Nat → Int32} {rt : Nat → Nat} (hr : ∀ v, 1 ≤ v → v < n → rt v < v ∧ R v = nI (rt v) ∧ M v = nI (rt v)) {v : Nat} (hv : v < n) (t : Nat) :
    ∃ r, lp (fX1_countRoads_L12 (nI n) R (nI v)) FU (nI t, (1 : Int32)) = some (r, nI n) ∧ lp (fX9_of_L43 (nI n) M (nI v)) FU (nI t, (1 : Int32)) = some (r, nI n) := by
  have c1 := lp_for (F := fX1_countRoads_L12 (nI n) R (nI v)) (fun i s => (nI s, nI i)) (fun i s => s + (if rt i = v then 1 else 0)) (fun i _ => 1 ≤ i) n (fun s => some (nI s, nI n)) (fun k s hs => by
      dsimp only [fX1_countRoads_L12]
      rw [if_pos (Int32.le_refl _)]) (fun k i s hi hs => by
      refine ⟨?_, by omega⟩
      obtain ⟨q1, q2, q3⟩ := hr i hs hi
      dsimp only [fX1_countRoads_L12, fX1_countRoads_J33]
      rw [if_neg (nI_ge hi (by omega)), if_pos (gI_n (by omega) (by decide)), nI_clamp (by omega), q2]
      by_cases e : rt i = v
      · rw [if_pos (by rw [e]), if_pos e, nI_1, nI_1]
      · rw [if_neg (by rw [nI_eq (by omega) (by omega)]; exact e), if_neg e, nI_1]
        rfl) (n - 1) FU 1 t (by omega) (FU_lt (by omega)) (Nat.le_refl _)
  have c2 := lp_for (F := fX9_of_L43 (nI n) M (nI v)) (fun i s => (nI s, nI i)) (fun i s => s + (if rt i = v then 1 else 0)) (fun i _ => 1 ≤ i) n (fun s => some (nI s, nI n)) (fun k s hs => by
      dsimp only [fX9_of_L43]
      rw [if_pos (Int32.le_refl _)]) (fun k i s hi hs => by
      refine ⟨?_, by omega⟩
      obtain ⟨q1, q2, q3⟩ := hr i hs hi
      dsimp only [fX9_of_L43, fX9_of_J69]
      rw [if_neg (nI_ge hi (by omega)), if_pos (gI_n (by omega) (by decide)), nI_clamp (by omega), q3]
      by_cases e : rt i = v
      · rw [if_pos (by rw [e]), if_pos e, nI_1, nI_1]
      · rw [if_neg (by rw [nI_eq (by omega) (by omega)]; exact e), if_neg e, nI_1]
        exact congrArg k (pr2 (nI_add s 0) rfl)) (n - 1) FU 1 t (by omega) (FU_lt (by omega)) (Nat.le_refl _)
  exact ⟨_, c1.1, c2.1⟩
set_option maxRecDepth 20000 in
theorem op_of {cBad cFul cCnt cOpc cTsz cLsz mVil mBad mFul mLen mSig : Int32} {cRts cLns cOpn cGps cByt cSgn mRts mLns mOpn mTxt mAns : Nat → Int32} (h : Rel cBad cFul cCnt cOpc cTsz cLsz cRts cLns cOpn cGps cByt cSgn mVil mBad mFul mLen mSig mRts mLns mOpn mTxt mAns) (p0 p1 : Int32) : ∃ (rv : Int32) (zcBad : Int32) (zmBad : Int32), fX8_of cBad cCnt cRts cLns cOpn p0 p1 = some (rv, zcBad) ∧ fX9_of mVil mBad mRts mLns mOpn p0 p1 = some (rv, zmBad) ∧ Rel zcBad cFul cCnt cOpc cTsz cLsz cRts cLns cOpn cGps cByt cSgn mVil zmBad mFul mLen mSig mRts mLns mOpn mTxt mAns := by
  obtain ⟨hB, hU, ⟨n, rt, ln, hL⟩, hT, hA⟩ := h
  subst hB hU
  obtain ⟨h1, h60, hc, hm, hrt, hr0, hm0, hl0, hop, -⟩ := id hL
  subst hc hm
  have e3 : (3 : Int32).toInt = 3 := by decide
  have e3' : (3 : Int64).toInt = 3 := by decide
  have e0' : (0 : Int64).toInt = 0 := by decide
  by_cases a0 : 0 ≤ p0.toInt ∧ p0.toInt < n
  · by_cases a1 : 0 ≤ p1.toInt ∧ p1.toInt ≤ 3
    · obtain ⟨v, hv, rfl⟩ := exN a0.1 a0.2
      obtain ⟨x, hx, rfl⟩ := exN (k := 4) a1.1 (by omega)
      have hgi := gI_n (show v < 60 by omega) (by decide)
      have hcl := nI_clamp (show v < 2 ^ 31 by omega)
      have key : ∃ r, fX1_aspect (nI n) cRts cLns cOpn (nI v) (nI x) = some r ∧ (if nI x = (3 : Int32) then (if nI v ≤ 0 then (fX9_of_J39 (nI n) mBad mRts (nI v) (0 : Int32)) else (fX9_of_J39 (nI n) mBad mRts (nI v) (1 : Int32))) else ((fX9_partOf mRts mLns mOpn (nI v) (nI x)).bind fun r_5 => (some (r_5, mBad)))) = some (r, mBad) := by
        rcases (show x = 0 ∨ x = 1 ∨ x = 2 ∨ x = 3 by omega) with rfl | rfl | rfl | rfl
        · refine ⟨cRts v, ?_, ?_⟩
          · simp only [fX1_aspect, has_v h60 hv, bd_s, if_neg i1_0, if_pos (show nI 0 = (0 : Int32) from rfl), hgi, hcl, if_true]
          · have e : mRts v = cRts v := by
              by_cases q : v = 0
              · rw [q, hr0, hm0]
              · rw [(hrt v (by omega) hv).2.1, (hrt v (by omega) hv).2.2.1]
            simp only [if_neg (show ¬ nI 0 = (3 : Int32) from by decide), fX9_partOf, if_pos (show nI 0 = (0 : Int32) from rfl), hgi, hcl, if_true, bd_s, e]
        · refine ⟨cLns v, ?_, ?_⟩
          · simp only [fX1_aspect, has_v h60 hv, bd_s, if_neg i1_0, if_neg (show ¬ nI 1 = (0 : Int32) from by decide), if_pos (show nI 1 = (1 : Int32) from rfl), hgi, hcl, if_true]
          · by_cases q : v = 0
            · subst q
              simp only [if_neg (show ¬ nI 1 = (3 : Int32) from by decide), fX9_partOf, if_neg (show ¬ nI 1 = (0 : Int32) from by decide), if_pos (show nI 1 = (1 : Int32) from rfl), if_pos (show nI 0 = (0 : Int32) from rfl), bd_s, hl0]
            · simp only [if_neg (show ¬ nI 1 = (3 : Int32) from by decide), fX9_partOf, if_neg (show ¬ nI 1 = (0 : Int32) from by decide), if_pos (show nI 1 = (1 : Int32) from rfl), if_neg (nI_ne0 (show 0 < v by omega) (by omega)), hgi, hcl, if_true, bd_s, (hrt v (by omega) hv).2.2.2.2.2.1, (hrt v (by omega) hv).2.2.2.2.2.2]
        · refine ⟨if cOpn v = 0 then 0 else 1, ?_, ?_⟩
          · simp only [fX1_aspect, has_v h60 hv, bd_s, if_neg i1_0, if_neg (show ¬ nI 2 = (0 : Int32) from by decide), if_neg (show ¬ nI 2 = (1 : Int32) from by decide), if_pos (show nI 2 = (2 : Int32) from rfl), hgi, hcl, if_true]
            split <;> rfl
          · simp only [if_neg (show ¬ nI 2 = (3 : Int32) from by decide), fX9_partOf, if_neg (show ¬ nI 2 = (0 : Int32) from by decide), if_neg (show ¬ nI 2 = (1 : Int32) from by decide), hgi, hcl, if_true, (hop v hv).2]
            split <;> rfl
        · by_cases q : v = 0
          · obtain ⟨r, k1, k2⟩ := roads_e h60 h1 (fun w a b => ⟨(hrt w a b).1, (hrt w a b).2.1, (hrt w a b).2.2.1⟩) hv 0
            refine ⟨r, ?_, ?_⟩
            · simp only [fX1_aspect, has_v h60 hv, bd_s, if_neg i1_0, fX1_countRoads, fX1_countRoads_J9, if_neg (show ¬ nI 3 = (0 : Int32) from by decide), if_neg (show ¬ nI 3 = (1 : Int32) from by decide), if_neg (show ¬ nI 3 = (2 : Int32) from by decide), if_pos (show nI v = (0 : Int32) from by rw [q]; rfl)]
              rw [show (0 : Int32) = nI 0 from rfl, k1]
              rfl
            · rw [if_pos (show nI 3 = (3 : Int32) from rfl), if_pos (show nI v ≤ (0 : Int32) from by rw [q]; decide), fX9_of_J39, show (0 : Int32) = nI 0 from rfl, k2]
              rfl
          · obtain ⟨r, k1, k2⟩ := roads_e h60 h1 (fun w a b => ⟨(hrt w a b).1, (hrt w a b).2.1, (hrt w a b).2.2.1⟩) hv 1
            refine ⟨r, ?_, ?_⟩
            · simp only [fX1_aspect, has_v h60 hv, bd_s, if_neg i1_0, fX1_countRoads, fX1_countRoads_J9, if_neg (show ¬ nI 3 = (0 : Int32) from by decide), if_neg (show ¬ nI 3 = (1 : Int32) from by decide), if_neg (show ¬ nI 3 = (2 : Int32) from by decide), if_neg (nI_ne0 (show 0 < v by omega) (by omega))]
              rw [show (lp (fX1_countRoads_L12 (nI n) cRts (nI v)) FU ((1 : Int32), (1 : Int32))) = some (r, nI n) from k1]
              rfl
            · rw [if_pos (show nI 3 = (3 : Int32) from rfl), if_neg (nI_nle (show 0 < v by omega) (by omega)), fX9_of_J39, show (lp (fX9_of_L43 (nI n) mRts (nI v)) FU ((1 : Int32), (1 : Int32))) = some (r, nI n) from k2]
              rfl
      obtain ⟨r, k1, k2⟩ := key
      refine ⟨r, mBad, mBad, ?_, ?_, rfl, rfl, ⟨n, rt, ln, hL⟩, hT, hA⟩
      · simp only [fX8_of, has_n h60, if_pos a0, upto_e, e3, if_pos a1, bd_s, if_neg i1_0, k1]
      · simp only [fX9_of, isV_e h1 h60, if_pos a0, in_l _ _ _ e0' e3', if_pos a1, bd_s, if_neg i1_0]
        exact k2
    · refine ⟨-2, mBad + 1, mBad + 1, ?_, ?_, rfl, rfl, ⟨n, rt, ln, hL⟩, hT, hA⟩
      · simp only [fX8_of, fX8_of_J19, fX8_refuseBad, has_n h60, if_pos a0, upto_e, e3, if_neg a1, bd_s, if_neg i1_0, if_true]
      · simp only [fX9_of, fX9_of_J20, fX9_refuse, isV_e h1 h60, if_pos a0, in_l _ _ _ e0' e3', if_neg a1, bd_s, if_neg i1_0, if_true]
  · refine ⟨-2, mBad + 1, mBad + 1, ?_, ?_, rfl, rfl, ⟨n, rt, ln, hL⟩, hT, hA⟩
    · simp only [fX8_of, fX8_of_J19, fX8_refuseBad, has_n h60, if_neg a0, bd_s, if_true]
    · simp only [fX9_of, fX9_of_J20, fX9_refuse, isV_e h1 h60, if_neg a0, bd_s, if_true]

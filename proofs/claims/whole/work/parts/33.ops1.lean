set_option maxRecDepth 20000 in
theorem op_far {cBad cFul cCnt cOpc cTsz cLsz mVil mBad mFul mLen mSig : Int32} {cRts cLns cOpn cGps cByt cSgn mRts mLns mOpn mTxt mAns : Nat → Int32} (h : Rel cBad cFul cCnt cOpc cTsz cLsz cRts cLns cOpn cGps cByt cSgn mVil mBad mFul mLen mSig mRts mLns mOpn mTxt mAns) (p0 p1 : Int32) : ∃ (rv : Int32) (zcBad : Int32) (zmBad : Int32), fX8_far cBad cCnt cGps p0 p1 = some (rv, zcBad) ∧ fX9_far mVil mBad mRts mLns p0 p1 = some (rv, zmBad) ∧ Rel zcBad cFul cCnt cOpc cTsz cLsz cRts cLns cOpn cGps cByt cSgn mVil zmBad mFul mLen mSig mRts mLns mOpn mTxt mAns := by
  obtain ⟨hB, hU, ⟨n, rt, ln, hL⟩, hT, hA⟩ := h
  subst hB hU
  obtain ⟨h1, h60, hc, hm, -⟩ := id hL
  subst hc hm
  by_cases a0 : 0 ≤ p0.toInt ∧ p0.toInt < n
  · by_cases a1 : 0 ≤ p1.toInt ∧ p1.toInt < n
    · obtain ⟨u, hu, rfl⟩ := exN a0.1 a0.2
      obtain ⟨v, hv, rfl⟩ := exN a1.1 a1.2
      refine ⟨nI (dist rt ln u v), mBad, mBad, ?_, ?_, rfl, rfl, ⟨n, rt, ln, hL⟩, hT, hA⟩
      · simp only [fX8_far, has_n h60, if_pos a0, if_pos a1, bd_s, if_neg i1_0, hL.gap hu hv]
      · simp only [fX9_far, isV_e h1 h60, if_pos a0, if_pos a1, bd_s, if_neg i1_0, far_e hL.treeM hu hv]
    · refine ⟨-2, mBad + 1, mBad + 1, ?_, ?_, rfl, rfl, ⟨n, rt, ln, hL⟩, hT, hA⟩
      · simp only [fX8_far, fX8_far_J22, fX8_refuseBad, has_n h60, if_pos a0, if_neg a1, bd_s, if_neg i1_0, if_true]
      · simp only [fX9_far, fX9_far_J25, fX9_refuse, isV_e h1 h60, if_pos a0, if_neg a1, bd_s, if_neg i1_0, if_true]
  · refine ⟨-2, mBad + 1, mBad + 1, ?_, ?_, rfl, rfl, ⟨n, rt, ln, hL⟩, hT, hA⟩
    · simp only [fX8_far, fX8_far_J22, fX8_refuseBad, has_n h60, if_neg a0, bd_s, if_true]
    · simp only [fX9_far, fX9_far_J25, fX9_refuse, isV_e h1 h60, if_neg a0, bd_s, if_true]
set_option maxRecDepth 20000 in
theorem op_clear {cBad cFul cCnt cOpc cTsz cLsz mVil mBad mFul mLen mSig : Int32} {cRts cLns cOpn cGps cByt cSgn mRts mLns mOpn mTxt mAns : Nat → Int32} (h : Rel cBad cFul cCnt cOpc cTsz cLsz cRts cLns cOpn cGps cByt cSgn mVil mBad mFul mLen mSig mRts mLns mOpn mTxt mAns)  : ∃ (rv : Int32) (zcTsz : Int32) (zmLen : Int32), fX8_clear cTsz = some (rv, zcTsz) ∧ fX9_clear mLen = some (rv, zmLen) ∧ Rel cBad cFul cCnt cOpc zcTsz cLsz cRts cLns cOpn cGps cByt cSgn mVil mBad mFul zmLen mSig mRts mLns mOpn mTxt mAns := by
  obtain ⟨hB, hU, hL, ⟨t, h1, h2, h3, h4⟩, hA⟩ := h
  subst hB hU h2 h3
  exact ⟨nI t, 0, 0, rfl, rfl, rfl, rfl, hL, ⟨0, by omega, rfl, rfl, fun i hi => absurd hi (by omega)⟩, hA⟩
set_option maxRecDepth 20000 in
theorem op_answer {cBad cFul cCnt cOpc cTsz cLsz mVil mBad mFul mLen mSig : Int32} {cRts cLns cOpn cGps cByt cSgn mRts mLns mOpn mTxt mAns : Nat → Int32} (h : Rel cBad cFul cCnt cOpc cTsz cLsz cRts cLns cOpn cGps cByt cSgn mVil mBad mFul mLen mSig mRts mLns mOpn mTxt mAns) (p0 : Int32) : ∃ (rv : Int32) (zcBad : Int32) (zmBad : Int32), fX8_answer cBad cLsz cSgn p0 = some (rv, zcBad) ∧ fX9_answer mBad mSig mAns p0 = some (rv, zmBad) ∧ Rel zcBad cFul cCnt cOpc cTsz cLsz cRts cLns cOpn cGps cByt cSgn mVil zmBad mFul mLen mSig mRts mLns mOpn mTxt mAns := by
  obtain ⟨hB, hU, hL, hT, ⟨k, h1, h2, h3, h4⟩⟩ := h
  subst hB hU h2 h3
  by_cases a0 : (-1 : Int32) ≤ p0
  · by_cases a1 : p0 = -1
    · refine ⟨nI k, mBad, mBad, ?_, ?_, rfl, rfl, hL, hT, ⟨k, h1, rfl, rfl, h4⟩⟩
      · simp only [fX8_answer, if_pos a0, if_pos a1]
      · simp only [fX9_answer, if_pos a0, if_pos a1]
    · have a2 : 0 ≤ p0.toInt := by
        rw [le_i] at a0
        have e1 : (-1 : Int32).toInt = -1 := by decide
        rw [e1] at a0
        rcases Int.lt_or_eq_of_le a0 with q | q
        · omega
        · exact absurd (Int32.toInt_inj.mp (q.symm.trans e1.symm)) a1
      by_cases a3 : nI k ≤ p0
      · refine ⟨-5, mBad, mBad, ?_, ?_, rfl, rfl, hL, hT, ⟨k, h1, rfl, rfl, h4⟩⟩
        · simp only [fX8_answer, if_pos a0, if_neg a1, if_pos a3]
        · simp only [fX9_answer, if_pos a0, if_neg a1, if_pos a3]
      · have a4 := a3
        rw [le_i, nI_toInt (by omega)] at a4
        obtain ⟨v, hv, rfl⟩ := exN (k := k) a2 (by omega)
        obtain ⟨x, hx, e1, e2⟩ := h4 v hv
        refine ⟨nI x, mBad, mBad, ?_, ?_, rfl, rfl, hL, hT, ⟨k, h1, rfl, rfl, h4⟩⟩
        · simp only [fX8_answer, if_pos a0, if_neg a1, if_neg a3, gI_n (show v < 400 by omega) (by decide), nI_clamp (show v < 2 ^ 31 by omega), e1, if_true]
        · simp only [fX9_answer, if_pos a0, if_neg a1, if_neg a3, gI_n (show v < 400 by omega) (by decide), nI_clamp (show v < 2 ^ 31 by omega), e2, if_true]
  · refine ⟨-10, mBad + 1, mBad + 1, ?_, ?_, rfl, rfl, hL, hT, ⟨k, h1, rfl, rfl, h4⟩⟩
    · simp only [fX8_answer, fX8_refuseBadPlace, if_neg a0, bd_s]
    · simp only [fX9_answer, fX9_refuse, if_neg a0, bd_s]
set_option maxRecDepth 20000 in
theorem op_type {cBad cFul cCnt cOpc cTsz cLsz mVil mBad mFul mLen mSig : Int32} {cRts cLns cOpn cGps cByt cSgn mRts mLns mOpn mTxt mAns : Nat → Int32} (h : Rel cBad cFul cCnt cOpc cTsz cLsz cRts cLns cOpn cGps cByt cSgn mVil mBad mFul mLen mSig mRts mLns mOpn mTxt mAns) (p0 : Int32) : ∃ (rv : Int32) (zcBad : Int32) (zcFul : Int32) (zcTsz : Int32) (zcByt : Nat → Int32) (zmBad : Int32) (zmFul : Int32) (zmLen : Int32) (zmTxt : Nat → Int32), fX8_type cBad cFul cTsz cByt p0 = some (rv, zcBad, zcFul, zcTsz, zcByt) ∧ fX9_type mBad mFul mLen mTxt p0 = some (rv, zmBad, zmFul, zmLen, zmTxt) ∧ Rel zcBad zcFul cCnt cOpc zcTsz cLsz cRts cLns cOpn cGps zcByt cSgn mVil zmBad zmFul zmLen mSig mRts mLns mOpn zmTxt mAns := by
  obtain ⟨hB, hU, hL, ⟨t, h1, h2, h3, h4⟩, hA⟩ := h
  subst hB hU h2 h3
  have e127 : (127 : Int32).toInt = 127 := by decide
  have e127' : (127 : Int64).toInt = 127 := by decide
  have e0' : (0 : Int64).toInt = 0 := by decide
  by_cases a0 : 0 ≤ p0.toInt ∧ p0.toInt ≤ 127
  · obtain ⟨x, hx, rfl⟩ := exN (k := 128) a0.1 (by omega)
    by_cases a1 : t < 120
    · refine ⟨nI (t + 1), mBad, mFul, nI (t + 1), upd cByt t (nI x), mBad, mFul, nI (t + 1), upd mTxt t (nI x), ?_, ?_, rfl, rfl, hL, ⟨t + 1, by omega, rfl, rfl, fun i hi => ?_⟩, hA⟩
      · have e1 : vp_nar .byte ((nI x).toInt8.toInt32) = nI x := nar_byte hx
        simp only [fX8_type, upto_e, e127, if_pos a0, bd_s, if_neg i1_0, fX5_put, show nI t < 120 from nI_lt a1 (by decide), show ¬ (120 : Int32) ≤ nI t from nI_ge a1 (by decide), gI_n a1 (by decide), nI_clamp (show t < 2 ^ 31 by omega), if_true, if_false, e1, nI_1]
      · simp only [fX9_type, in_l _ _ _ e0' e127', if_pos a0, bd_s, if_neg i1_0, show ¬ nI t = 120 from by rw [show (120 : Int32) = nI 120 from rfl, nI_eq (by omega) (by decide)]; omega, gI_n a1 (by decide), nI_clamp (show t < 2 ^ 31 by omega), if_true, if_false, nI_1]
      · by_cases e : i = t
        · subst e
          exact ⟨x, hx, upd_s, upd_s⟩
        · obtain ⟨y, q1, q2, q3⟩ := h4 i (by omega)
          exact ⟨y, q1, by rw [upd_n e, q2], by rw [upd_n e, q3]⟩
    · obtain rfl : t = 120 := by omega
      refine ⟨-4, mBad, mFul + 1, nI 120, cByt, mBad, mFul + 1, nI 120, mTxt, ?_, ?_, rfl, rfl, hL, ⟨120, by omega, rfl, rfl, h4⟩, hA⟩
      · simp only [fX8_type, fX8_refuseFull, upto_e, e127, if_pos a0, bd_s, if_neg i1_0, show ¬ nI 120 < 120 from by decide, if_false]
      · simp only [fX9_type, fX9_refuseFull, in_l _ _ _ e0' e127', if_pos a0, bd_s, if_neg i1_0, show nI 120 = 120 from rfl, if_true]
  · refine ⟨-2, mBad + 1, mFul, nI t, cByt, mBad + 1, mFul, nI t, mTxt, ?_, ?_, rfl, rfl, hL, ⟨t, h1, rfl, rfl, h4⟩, hA⟩
    · simp only [fX8_type, fX8_refuseBad, upto_e, e127, if_neg a0, bd_s, if_true]
    · simp only [fX9_type, fX9_refuse, in_l _ _ _ e0' e127', if_neg a0, bd_s, if_true]
set_option maxRecDepth 20000 in
theorem op_told {cBad cFul cCnt cOpc cTsz cLsz mVil mBad mFul mLen mSig : Int32} {cRts cLns cOpn cGps cByt cSgn mRts mLns mOpn mTxt mAns : Nat → Int32} (h : Rel cBad cFul cCnt cOpc cTsz cLsz cRts cLns cOpn cGps cByt cSgn mVil mBad mFul mLen mSig mRts mLns mOpn mTxt mAns) (p0 : Int32) : ∃ (rv : Int32) (zcBad : Int32) (zmBad : Int32), fX8_told cBad cFul cCnt cOpc cTsz cLsz p0 = some (rv, zcBad) ∧ fX9_told mVil mBad mFul mLen mSig mOpn p0 = some (rv, zmBad) ∧ Rel zcBad cFul cCnt cOpc cTsz cLsz cRts cLns cOpn cGps cByt cSgn mVil zmBad mFul mLen mSig mRts mLns mOpn mTxt mAns := by
  obtain ⟨hB, hU, ⟨n, rt, ln, hL⟩, ⟨t, h1, h2, h3, h4⟩, ⟨k, g1, g2, g3, g4⟩⟩ := h
  subst hB hU h2 h3 g2 g3
  have hR : Rel mBad mFul cCnt cOpc (nI t) (nI k) cRts cLns cOpn cGps cByt cSgn mVil mBad mFul (nI t) (nI k) mRts mLns mOpn mTxt mAns := ⟨rfl, rfl, ⟨n, rt, ln, hL⟩, ⟨t, h1, rfl, rfl, h4⟩, ⟨k, g1, rfl, rfl, g4⟩⟩
  have hRB : Rel (mBad + 1) mFul cCnt cOpc (nI t) (nI k) cRts cLns cOpn cGps cByt cSgn mVil (mBad + 1) mFul (nI t) (nI k) mRts mLns mOpn mTxt mAns := ⟨rfl, rfl, ⟨n, rt, ln, hL⟩, ⟨t, h1, rfl, rfl, h4⟩, ⟨k, g1, rfl, rfl, g4⟩⟩
  obtain ⟨n1, h60, hc, hm, hrt, hr0, hm0, hl0, hop, hoc, hg, hd⟩ := hL
  subst hc hm hoc
  have e6 : (6 : Int32).toInt = 6 := by decide
  have e6' : (6 : Int64).toInt = 6 := by decide
  have e0' : (0 : Int64).toInt = 0 := by decide
  by_cases a0 : 0 ≤ p0.toInt ∧ p0.toInt ≤ 6
  · obtain ⟨x, hx, rfl⟩ := exN (k := 7) a0.1 (by omega)
    have key : ∃ r, fX8_tally mBad mFul (nI n) (nI (cntO cOpn n)) (nI t) (nI k) (nI x) = some r ∧ fX9_tell (nI n) mBad mFul (nI t) (nI k) mOpn (nI x) = some r := by
      have eo : fX9_openMany (nI n) mOpn = some (nI (cntO cOpn n)) := by
        rw [openM_e h60, cntO_cg n (fun v hv => (hop v hv).2)]
      rcases (show x = 0 ∨ x = 1 ∨ x = 2 ∨ x = 3 ∨ x = 4 ∨ x = 5 ∨ x = 6 by omega) with rfl | rfl | rfl | rfl | rfl | rfl | rfl
      · exact ⟨mBad, rfl, rfl⟩
      · exact ⟨0, rfl, rfl⟩
      · exact ⟨mFul, rfl, rfl⟩
      · exact ⟨nI t, rfl, rfl⟩
      · exact ⟨nI n, rfl, rfl⟩
      · refine ⟨nI (cntO cOpn n), rfl, ?_⟩
        show (fX9_openMany (nI n) mOpn).bind (fun r_1 => some r_1) = _
        rw [eo]
        rfl
      · exact ⟨nI k, rfl, rfl⟩
    obtain ⟨r, k1, k2⟩ := key
    refine ⟨r, mBad, mBad, ?_, ?_, hR⟩
    · simp only [fX8_told, upto_e, e6, if_pos a0, bd_s, if_neg i1_0, k1]
    · simp only [fX9_told, in_l _ _ _ e0' e6', if_pos a0, bd_s, if_neg i1_0, k2]
  · refine ⟨-2, mBad + 1, mBad + 1, ?_, ?_, hRB⟩
    · simp only [fX8_told, fX8_refuseBad, upto_e, e6, if_neg a0, bd_s, if_true]
    · simp only [fX9_told, fX9_refuse, in_l _ _ _ e0' e6', if_neg a0, bd_s, if_true]
set_option maxRecDepth 20000 in
theorem op_anew {cBad cFul cCnt cOpc cTsz cLsz mVil mBad mFul mLen mSig : Int32} {cRts cLns cOpn cGps cByt cSgn mRts mLns mOpn mTxt mAns : Nat → Int32} (h : Rel cBad cFul cCnt cOpc cTsz cLsz cRts cLns cOpn cGps cByt cSgn mVil mBad mFul mLen mSig mRts mLns mOpn mTxt mAns)  : ∃ (rv : Int32) (zcCnt : Int32) (zcOpc : Int32) (zcRts : Nat → Int32) (zcLns : Nat → Int32) (zcOpn : Nat → Int32) (zmVil : Int32) (zmOpn : Nat → Int32), fX8_anew cCnt cOpc cRts cLns cOpn = some (rv, zcCnt, zcOpc, zcRts, zcLns, zcOpn) ∧ fX9_anew mVil mOpn = some (rv, zmVil, zmOpn) ∧ Rel cBad cFul zcCnt zcOpc cTsz cLsz zcRts zcLns zcOpn cGps cByt cSgn zmVil mBad mFul mLen mSig mRts mLns zmOpn mTxt mAns := by
  obtain ⟨hB, hU, ⟨n, rt, ln, hL⟩, hT, hA⟩ := h
  subst hB hU
  obtain ⟨n1, h60, hc, hm, hrt, hr0, hm0, hl0, hop, hoc, hg, hd⟩ := hL
  subst hc hm
  refine ⟨nI n, 1, 0, upd cRts 0 (-1), upd cLns 0 0, upd cOpn 0 0, 1, upd mOpn 0 0, rfl, rfl, rfl, rfl, ⟨1, rt, ln, by decide, by decide, rfl, rfl, fun v a b => absurd b (by omega), upd_s, hm0, upd_s, fun v hv => ?_, ?_, fun u v hu hv => ?_, hd⟩, hT, hA⟩
  · obtain rfl : v = 0 := by omega
    exact ⟨Or.inl upd_s, by rw [upd_s, upd_s]⟩
  · simp [cntO, upd_s]
    rfl
  · obtain rfl : u = 0 := by omega
    obtain rfl : v = 0 := by omega
    exact hg 0 0 (by omega) (by omega)
theorem cntO_up {o : Nat → Int32} {x : Int32} {v : Nat} : ∀ n, v < n → cntO (upd o v x) n + (if o v = 0 then 0 else 1) = cntO o n + (if x = 0 then 0 else 1) := by
  intro n
  induction n with
  | zero => intro h; omega
  | succ n ih =>
    intro h
    rw [cntO, cntO]
    by_cases e : v = n
    · subst e
      rw [upd_s, cntO_cg (o := o) (o' := upd o v x) v (fun u hu => upd_n (by omega))]
      omega
    · rw [upd_n (show n ≠ v from fun q => e q.symm)]
      have := ih (by omega)
      omega
/-- a depot is set: the class and the reference -/
theorem setDepot_e {n : Nat} {rt ln : Nat → Nat} {cCnt cOpc : Int32} {cRts cLns cOpn cGps : Nat → Int32} {mVil : Int32} {mRts mLns mOpn : Nat → Int32} (hL : LandR n rt ln cCnt cOpc cRts cLns cOpn cGps mVil mRts mLns mOpn) {v : Nat} (hv : v < n) {x : Int32} (hx : x = 0 ∨ x = 1) :
    ∃ (r c2 : Int32) (o2 m2 : Nat → Int32), fX1_setDepot cCnt cOpc cOpn (nI v) x = some (r, c2, o2) ∧ fX9_becomes mOpn (nI v) x = some (r, m2) ∧ (r = 0 ∨ r = 1) ∧ LandR n rt ln cCnt c2 cRts cLns o2 cGps mVil mRts mLns m2 := by
  obtain ⟨n1, h60, hc, hm, hrt, hr0, hm0, hl0, hop, hoc, hg, hd⟩ := hL
  obtain ⟨hb, he⟩ := hop v hv
  have hxn : vp_nar .boolean x = x := by rcases hx with rfl | rfl <;> decide
  have hle := cntO_le cOpn n
  by_cases e : cOpn v = x
  · refine ⟨0, cOpc, cOpn, upd mOpn v x, ?_, ?_, Or.inl rfl, n1, h60, hc, hm, hrt, hr0, hm0, hl0, fun w hw => ⟨(hop w hw).1, ?_⟩, hoc, hg, hd⟩
    · simp only [fX1_setDepot, hc, has_v h60 hv, bd_s, if_neg i1_0, gI_n (show v < 60 by omega) (by decide), nI_clamp (show v < 2 ^ 31 by omega), if_pos e, if_true]
    · simp only [fX9_becomes, gI_n (show v < 60 by omega) (by decide), nI_clamp (show v < 2 ^ 31 by omega), he, if_pos e, if_true, hxn]
    · by_cases q : w = v
      · subst q
        rw [upd_s, e]
      · rw [upd_n q, (hop w hw).2]
  · have hup := cntO_up (o := cOpn) (x := x) n hv
    have keep : ∀ w, w < n → (upd cOpn v x w = 0 ∨ upd cOpn v x w = 1) ∧ upd mOpn v x w = upd cOpn v x w := by
      intro w hw
      by_cases q : w = v
      · subst q
        rw [upd_s, upd_s]
        exact ⟨hx, rfl⟩
      · rw [upd_n q, upd_n q]
        exact hop w hw
    refine ⟨1, nI (cntO (upd cOpn v x) n), upd cOpn v x, upd mOpn v x, ?_, ?_, Or.inr rfl, n1, h60, hc, hm, hrt, hr0, hm0, hl0, keep, rfl, hg, hd⟩
    · simp only [fX1_setDepot, fX1_setDepot_J41, hc, has_v h60 hv, bd_s, if_neg i1_0, gI_n (show v < 60 by omega) (by decide), nI_clamp (show v < 2 ^ 31 by omega), if_neg e, if_true, hxn]
      rcases hx with rfl | rfl
      · have hb1 : cOpn v = 1 := hb.resolve_left e
        rw [if_pos rfl]
        rw [hb1, if_neg i1_0, if_pos rfl] at hup
        rw [hoc, ← Nat.add_zero (cntO cOpn n), ← hup, show (-1 : Int32) = -1 from rfl, pk_m1]
      · have hb0 : cOpn v = 0 := hb.resolve_right e
        rw [if_neg i1_0]
        rw [hb0, if_pos rfl, if_neg i1_0, Nat.add_zero] at hup
        rw [hoc, hup, nI_1]
    · simp only [fX9_becomes, gI_n (show v < 60 by omega) (by decide), nI_clamp (show v < 2 ^ 31 by omega), he, if_neg e, if_true, hxn]
set_option maxRecDepth 20000 in
theorem op_depot {cBad cFul cCnt cOpc cTsz cLsz mVil mBad mFul mLen mSig : Int32} {cRts cLns cOpn cGps cByt cSgn mRts mLns mOpn mTxt mAns : Nat → Int32} (h : Rel cBad cFul cCnt cOpc cTsz cLsz cRts cLns cOpn cGps cByt cSgn mVil mBad mFul mLen mSig mRts mLns mOpn mTxt mAns) (p0 p1 : Int32) : ∃ (rv : Int32) (zcBad : Int32) (zcOpc : Int32) (zcOpn : Nat → Int32) (zmBad : Int32) (zmOpn : Nat → Int32), fX8_depot cBad cCnt cOpc cOpn p0 p1 = some (rv, zcBad, zcOpc, zcOpn) ∧ fX9_depot mVil mBad mOpn p0 p1 = some (rv, zmBad, zmOpn) ∧ Rel zcBad cFul cCnt zcOpc cTsz cLsz cRts cLns zcOpn cGps cByt cSgn mVil zmBad mFul mLen mSig mRts mLns zmOpn mTxt mAns := by
  obtain ⟨hB, hU, ⟨n, rt, ln, hL⟩, hT, hA⟩ := h
  subst hB hU
  obtain ⟨h1, h60, hc, hm, -⟩ := id hL
  subst hc hm
  have e1 : (1 : Int32).toInt = 1 := by decide
  have e1' : (1 : Int64).toInt = 1 := by decide
  have e0' : (0 : Int64).toInt = 0 := by decide
  by_cases a0 : 0 ≤ p0.toInt ∧ p0.toInt < n
  · by_cases a1 : 0 ≤ p1.toInt ∧ p1.toInt ≤ 1
    · obtain ⟨v, hv, rfl⟩ := exN a0.1 a0.2
      obtain ⟨x, hx, rfl⟩ := exN (k := 2) a1.1 (by omega)
      rcases (show x = 0 ∨ x = 1 by omega) with rfl | rfl
      · obtain ⟨r, c2, o2, m2, f1, f2, -, hL2⟩ := setDepot_e hL hv (x := 0) (Or.inl rfl)
        refine ⟨r, mBad, c2, o2, mBad, m2, ?_, ?_, rfl, rfl, ⟨n, rt, ln, hL2⟩, hT, hA⟩
        · simp only [fX8_depot, fX8_depot_J39, has_n h60, if_pos a0, upto_e, e1, if_pos a1, bd_s, if_neg i1_0, show ¬ nI 0 = 1 from by decide, if_false, f1]
        · simp only [fX9_depot, fX9_depot_J30, isV_e h1 h60, if_pos a0, in_l _ _ _ e0' e1', if_pos a1, bd_s, if_neg i1_0, show ¬ nI 0 = 1 from by decide, if_false, f2]
      · obtain ⟨r, c2, o2, m2, f1, f2, -, hL2⟩ := setDepot_e hL hv (x := 1) (Or.inr rfl)
        refine ⟨r, mBad, c2, o2, mBad, m2, ?_, ?_, rfl, rfl, ⟨n, rt, ln, hL2⟩, hT, hA⟩
        · simp only [fX8_depot, fX8_depot_J39, has_n h60, if_pos a0, upto_e, e1, if_pos a1, bd_s, if_neg i1_0, if_pos (show nI 1 = (1 : Int32) from rfl), f1]
        · simp only [fX9_depot, fX9_depot_J30, isV_e h1 h60, if_pos a0, in_l _ _ _ e0' e1', if_pos a1, bd_s, if_neg i1_0, if_pos (show nI 1 = (1 : Int32) from rfl), f2]
    · refine ⟨-2, mBad + 1, cOpc, cOpn, mBad + 1, mOpn, ?_, ?_, rfl, rfl, ⟨n, rt, ln, hL⟩, hT, hA⟩
      · simp only [fX8_depot, fX8_depot_J19, fX8_refuseBad, has_n h60, if_pos a0, upto_e, e1, if_neg a1, bd_s, if_neg i1_0, if_true]
      · simp only [fX9_depot, fX9_depot_J36, fX9_refuse, isV_e h1 h60, if_pos a0, in_l _ _ _ e0' e1', if_neg a1, bd_s, if_neg i1_0, if_true]
  · refine ⟨-2, mBad + 1, cOpc, cOpn, mBad + 1, mOpn, ?_, ?_, rfl, rfl, ⟨n, rt, ln, hL⟩, hT, hA⟩
    · simp only [fX8_depot, fX8_depot_J19, fX8_refuseBad, has_n h60, if_neg a0, bd_s, if_true]
    · simp only [fX9_depot, fX9_depot_J36, fX9_refuse, isV_e h1 h60, if_neg a0, bd_s, if_true]

set_option maxRecDepth 20000 in
theorem op_says {cBad cFul cCnt cOpc cStp cTsz cRcn cPlc cFlt cVil cLsz mVil mBad mFul mLen mSig mWay mSpo mBeg mTok mVal mWor mThe : Int32} {cRts cLns cOpn cGps cTrl cByt cWds cFst cSnd cSgn mRts mLns mOpn mTxt mAns mWys mNbs : Nat → Int32} (h : Rel cBad cFul cCnt cOpc cTsz cLsz cRts cLns cOpn cGps cByt cSgn mVil mBad mFul mLen mSig mRts mLns mOpn mTxt mAns)  : ∃ (rv : Int32) (zcCnt : Int32) (zcOpc : Int32) (zcStp : Int32) (zcRcn : Int32) (zcPlc : Int32) (zcFlt : Int32) (zcVil : Int32) (zcLsz : Int32) (zcRts : Nat → Int32) (zcLns : Nat → Int32) (zcOpn : Nat → Int32) (zcGps : Nat → Int32) (zcTrl : Nat → Int32) (zcWds : Nat → Int32) (zcFst : Nat → Int32) (zcSnd : Nat → Int32) (zcSgn : Nat → Int32) (zmVil : Int32) (zmSig : Int32) (zmWay : Int32) (zmSpo : Int32) (zmBeg : Int32) (zmTok : Int32) (zmVal : Int32) (zmWor : Int32) (zmThe : Int32) (zmRts : Nat → Int32) (zmLns : Nat → Int32) (zmOpn : Nat → Int32) (zmAns : Nat → Int32) (zmWys : Nat → Int32) (zmNbs : Nat → Int32), fX8_says cCnt cOpc cStp cTsz cRcn cPlc cFlt cVil cLsz cRts cLns cOpn cGps cTrl cByt cWds cFst cSnd cSgn = some (rv, zcCnt, zcOpc, zcStp, zcRcn, zcPlc, zcFlt, zcVil, zcLsz, zcRts, zcLns, zcOpn, zcGps, zcTrl, zcWds, zcFst, zcSnd, zcSgn) ∧ fX9_says mVil mLen mSig mWay mSpo mBeg mTok mVal mWor mThe mRts mLns mOpn mTxt mAns mWys mNbs = some (rv, zmVil, zmSig, zmWay, zmSpo, zmBeg, zmTok, zmVal, zmWor, zmThe, zmRts, zmLns, zmOpn, zmAns, zmWys, zmNbs) ∧ Rel cBad cFul zcCnt zcOpc cTsz zcLsz zcRts zcLns zcOpn zcGps cByt zcSgn zmVil mBad mFul mLen zmSig zmRts zmLns zmOpn mTxt zmAns := by
  obtain ⟨hB, hU, ⟨n, rt, ln, hL⟩, ⟨t, ht, htc, htm, hxx⟩, hA⟩ := h
  subst hB hU htc htm
  obtain ⟨h1, h60, hc, hm, -⟩ := id hL
  subst hc hm
  have hX : TX t (fun i => (cByt i).toNatClampNeg) cByt mTxt := ⟨ht, fun i hi => by
    obtain ⟨x, x1, x2, x3⟩ := hxx i hi
    have e : (cByt i).toNatClampNeg = x := by rw [x2, nI_clamp (by omega)]
    show (cByt i).toNatClampNeg < 128 ∧ cByt i = nI (cByt i).toNatClampNeg ∧ mTxt i = nI (cByt i).toNatClampNeg
    rw [e]
    exact ⟨x1, x2, x3⟩⟩
  obtain ⟨q, hq⟩ := run_at (t := t) (P := fun i => (cByt i).toNatClampNeg = 32) (p := 0) (Nat.zero_le _)
  rcases read_e hX (nI n) mSig mWay mRts mLns mOpn mAns mWys 30 0 FU 0 q n cWds cFst cSnd (by omega) (FU_lt (by omega)) hq (Or.inl rfl) (by omega) h1 h60 with ⟨fl, hfl, ⟨v, rc, pl, vi, W', F', S', k1⟩, k2⟩ | ⟨L, hch, l30, l1, ⟨v, pl, vi, W', F', S', k1, -, k3⟩, k4⟩
  · obtain ⟨s1, s2, s3, s4, s5, s6, N', k2⟩ := k2 0 hq mBeg mTok mVal mWor mNbs
    refine ⟨-10 - nI fl, nI n, cOpc, cStp, rc, pl, nI fl, vi, cLsz, cRts, cLns, cOpn, cGps, cTrl, W', F', S', cSgn, nI n, mSig, mWay, s1, s2, s3, s4, s5, s6, mRts, mLns, mOpn, mAns, mWys, N', ?_, ?_, rfl, rfl, ⟨n, rt, ln, hL⟩, ⟨t, ht, rfl, rfl, hxx⟩, hA⟩
    · unfold fX8_says fX3_read
      rw [show lp (fX3_read_L22 (nI t) cByt) FU ((0 : Int32), (0 : Int32), (0 : Int32), (-1 : Int32), nI n, cWds, cFst, cSnd) = _ from k1, bd_s]
      dsimp only
      rw [bd_s]
      dsimp only
      rw [if_neg (nI_nm1 (by omega))]
    · exact k2
  · obtain ⟨K, p3, s1, s2, s3, s4, s5, N', hp3, k4⟩ := k4 0 hq mBeg mTok mVal mWor mNbs
    rw [Nat.zero_add] at l30 l1 k1 k4
    obtain ⟨zc, zo, zs, zl, zR, zN, zP, zG, zT, zA, uS, uW, o1, o2, o3, o4, o5, o6, uR, uN, uP, uA, uY, N2, d1, d2, ⟨k, rt', ln', d3⟩, d4⟩ := done_e (t := t) (X := fun i => (cByt i).toNatClampNeg) (M := mTxt) L.length l30 W' F' S' L FU 0 0 q n rt ln cOpc cStp (nI 0) (nI 0) mWay s1 s2 s3 s4 cRts cLns cOpn cGps cTrl cSgn mRts mLns mOpn mAns mWys N' (by omega) (FU_lt (by omega)) hch hq k3 hL ⟨0, by omega, rfl, rfl, fun i hi => absurd hi (by omega)⟩
    refine ⟨nI L.length, zc, zo, zs, nI L.length, pl, -1, vi, zl, zR, zN, zP, zG, zT, W', F', S', zA, zc, uS, uW, o1, o2, o3, o4, o5, o6, uR, uN, uP, uA, uY, N2, ?_, ?_, rfl, rfl, ⟨k, rt', ln', d3⟩, ⟨t, ht, rfl, rfl, hxx⟩, d4⟩
    · unfold fX8_says fX3_read fX2_empty
      rw [show lp (fX3_read_L22 (nI t) cByt) FU ((0 : Int32), (0 : Int32), (0 : Int32), (-1 : Int32), nI n, cWds, cFst, cSnd) = _ from k1, bd_s]
      dsimp only
      rw [bd_s]
      dsimp only
      rw [if_pos rfl, bd_s, show lp (fX8_says_L34 (nI L.length) W' F' S') FU ((0 : Int32), nI n, cOpc, cStp, (0 : Int32), cRts, cLns, cOpn, cGps, cTrl, cSgn) = _ from d1, bd_s]
    · unfold fX9_says
      refine k4.trans ?_
      dsimp only [fX9_says_L15]
      rw [if_neg (nI_ne0 (by omega) (by omega)), skipI hX hp3, bd_s, if_pos rfl, if_pos rfl, show lp (fX9_says_L67 (nI t) mTxt (nI L.length)) FU ((0 : Int32), nI n, (0 : Int32), mWay, (0 : Int32), s1, s2, s3, s4, nI n, mRts, mLns, mOpn, mAns, mWys, N') = _ from d2, bd_s]

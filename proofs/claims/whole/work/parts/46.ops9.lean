def vO (o : Option Int32) : Int32 := o.getD 0
theorem vO_e {a b : Option Int32} (h : ∃ r, a = some r ∧ b = some r) : a = some (vO b) ∧ b = some (vO b) := by
  obtain ⟨r, h1, h2⟩ := h
  subst h1 h2
  exact ⟨rfl, rfl⟩
set_option maxRecDepth 20000 in
theorem op_digest {cBad cFul cCnt cOpc cTsz cLsz mVil mBad mFul mLen mSig : Int32} {cRts cLns cOpn cGps cByt cSgn mRts mLns mOpn mTxt mAns : Nat → Int32} (h : Rel cBad cFul cCnt cOpc cTsz cLsz cRts cLns cOpn cGps cByt cSgn mVil mBad mFul mLen mSig mRts mLns mOpn mTxt mAns)  : ∃ (rv : Int64) , fX8_digest cBad cFul cCnt cOpc cTsz cLsz cRts cLns cOpn cSgn = some rv ∧ fX9_digest mVil mBad mFul mLen mSig mRts mLns mOpn mAns = some rv ∧ Rel cBad cFul cCnt cOpc cTsz cLsz cRts cLns cOpn cGps cByt cSgn mVil mBad mFul mLen mSig mRts mLns mOpn mTxt mAns := by
  refine (fun (key : ∃ rv, fX8_digest cBad cFul cCnt cOpc cTsz cLsz cRts cLns cOpn cSgn = some rv ∧ fX9_digest mVil mBad mFul mLen mSig mRts mLns mOpn mAns = some rv) => by obtain ⟨rv, k1, k2⟩ := key; exact ⟨rv, k1, k2, h⟩) ?_
  obtain ⟨hB, hU, ⟨n, rt, ln, hL⟩, ⟨t, h1, h2, h3, h4⟩, ⟨k, g1, g2, g3, g4⟩⟩ := h
  subst hB hU h2 h3 g2 g3
  obtain ⟨n1, h60, hc, hm, hrt, hr0, hm0, hl0, hop, hoc, hg, hd⟩ := hL
  subst hc hm hoc
  have key : ∀ x, x < 7 → ∃ r, fX8_tally mBad mFul (nI n) (nI (cntO cOpn n)) (nI t) (nI k) (nI x) = some r ∧ fX9_tell (nI n) mBad mFul (nI t) (nI k) mOpn (nI x) = some r := by
    intro x hx
    have eo : fX9_openMany (nI n) mOpn = some (nI (cntO cOpn n)) := by
      rw [openM_e h60, cntO_cg n (fun v hv => (hop v hv).2)]
    rcases (show x = 0 ∨ x = 1 ∨ x = 2 ∨ x = 3 ∨ x = 4 ∨ x = 5 ∨ x = 6 by omega) with rfl | rfl | rfl | rfl | rfl | rfl | rfl
    · exact ⟨mBad, rfl, rfl⟩
    · exact ⟨0, rfl, rfl⟩
    · exact ⟨mFul, rfl, rfl⟩
    · exact ⟨nI t, rfl, rfl⟩
    · exact ⟨nI n, rfl, rfl⟩
    · refine ⟨nI (cntO cOpn n), rfl, ?_⟩
      show (fX9_openMany (nI n) mOpn).bind (fun r_1 => some r_1) = _
      rw [eo]
      rfl
    · exact ⟨nI k, rfl, rfl⟩
  have key2 : ∀ v x, v < n → x < 3 → ∃ r, fX1_aspect (nI n) cRts cLns cOpn (nI v) (nI x) = some r ∧ fX9_partOf mRts mLns mOpn (nI v) (nI x) = some r := by
    intro v x hv hx
    have hgi := gI_n (show v < 60 by omega) (by decide)
    have hcl := nI_clamp (show v < 2 ^ 31 by omega)
    rcases (show x = 0 ∨ x = 1 ∨ x = 2 by omega) with rfl | rfl | rfl
    · refine ⟨cRts v, ?_, ?_⟩
      · simp only [fX1_aspect, has_v h60 hv, bd_s, if_neg i1_0, if_pos (show nI 0 = (0 : Int32) from rfl), hgi, hcl, if_true]
      · have e : mRts v = cRts v := by
          by_cases q : v = 0
          · rw [q, hr0, hm0]
          · rw [(hrt v (by omega) hv).2.1, (hrt v (by omega) hv).2.2.1]
        simp only [fX9_partOf, if_pos (show nI 0 = (0 : Int32) from rfl), hgi, hcl, if_true, e]
    · refine ⟨cLns v, ?_, ?_⟩
      · simp only [fX1_aspect, has_v h60 hv, bd_s, if_neg i1_0, if_neg (show ¬ nI 1 = (0 : Int32) from by decide), if_pos (show nI 1 = (1 : Int32) from rfl), hgi, hcl, if_true]
      · by_cases q : v = 0
        · subst q
          simp only [fX9_partOf, if_neg (show ¬ nI 1 = (0 : Int32) from by decide), if_pos (show nI 1 = (1 : Int32) from rfl), if_pos (show nI 0 = (0 : Int32) from rfl), hl0]
        · simp only [fX9_partOf, if_neg (show ¬ nI 1 = (0 : Int32) from by decide), if_pos (show nI 1 = (1 : Int32) from rfl), if_neg (nI_ne0 (show 0 < v by omega) (by omega)), hgi, hcl, if_true, (hrt v (by omega) hv).2.2.2.2.2.1, (hrt v (by omega) hv).2.2.2.2.2.2]
    · refine ⟨if cOpn v = 0 then 0 else 1, ?_, ?_⟩
      · simp only [fX1_aspect, has_v h60 hv, bd_s, if_neg i1_0, if_neg (show ¬ nI 2 = (0 : Int32) from by decide), if_neg (show ¬ nI 2 = (1 : Int32) from by decide), if_pos (show nI 2 = (2 : Int32) from rfl), hgi, hcl, if_true]
        split <;> rfl
      · simp only [fX9_partOf, if_neg (show ¬ nI 2 = (0 : Int32) from by decide), if_neg (show ¬ nI 2 = (1 : Int32) from by decide), hgi, hcl, if_true, (hop v hv).2]
        split <;> rfl
  have a1 := lp_for (F := fX8_digest_L6 mBad mFul (nI n) (nI (cntO cOpn n)) (nI t) (nI k)) (fun i (s : Int64) => (s, nI i)) (fun i s => 31 * s + (vO (fX9_tell (nI n) mBad mFul (nI t) (nI k) mOpn (nI i))).toInt64) (fun _ _ => True) 7 (fun s => some (s, nI 7)) (fun k s _ => by
      dsimp only [fX8_digest_L6]
      rw [if_pos (by decide)]) (fun k i s hi _ => by
      refine ⟨?_, trivial⟩
      dsimp only [fX8_digest_L6]
      rw [if_neg (show ¬ (6 : Int32) < nI i from nI_nlt (a := 6) (by omega) (by decide)), (vO_e (key i hi)).1, bd_s, nI_1]) 7 FU 0 1997 (by omega) (FU_lt (by omega)) trivial
  have a2 := lp_for (F := fX9_digest_L6 (nI n) mBad mFul (nI t) (nI k) mOpn) (fun i (s : Int64) => (s, nI i)) (fun i s => 31 * s + (vO (fX9_tell (nI n) mBad mFul (nI t) (nI k) mOpn (nI i))).toInt64) (fun _ _ => True) 7 (fun s => some (s, nI 7)) (fun k s _ => by
      dsimp only [fX9_digest_L6]
      rw [if_pos (by decide)]) (fun k i s hi _ => by
      refine ⟨?_, trivial⟩
      dsimp only [fX9_digest_L6]
      rw [if_neg (show ¬ (7 : Int32) ≤ nI i from nI_ge (b := 7) (by omega) (by decide)), (vO_e (key i hi)).2, bd_s, nI_1]
      rfl) 7 FU 0 1997 (by omega) (FU_lt (by omega)) trivial
  have b1 : ∀ v s, v < n → lp (fX8_digest_L47 (nI n) cRts cLns cOpn (nI v)) FU (s, 0) = some (itr (fun i s => 31 * s + (vO (fX9_partOf mRts mLns mOpn (nI v) (nI i))).toInt64) 0 3 s, nI 3) := by
    intro v s hv
    exact (lp_for (F := fX8_digest_L47 (nI n) cRts cLns cOpn (nI v)) (fun i (s : Int64) => (s, nI i)) (fun i s => 31 * s + (vO (fX9_partOf mRts mLns mOpn (nI v) (nI i))).toInt64) (fun _ _ => True) 3 (fun s => some (s, nI 3)) (fun k s _ => by
      dsimp only [fX8_digest_L47]
      rw [if_pos (by decide)]) (fun k i s hi _ => by
      refine ⟨?_, trivial⟩
      dsimp only [fX8_digest_L47]
      rw [if_neg (show ¬ (2 : Int32) < nI i from nI_nlt (a := 2) (by omega) (by decide)), (vO_e (key2 v i hv hi)).1, bd_s, nI_1]) 3 FU 0 s (by omega) (FU_lt (by omega)) trivial).1
  have b2 : ∀ v s, v < n → lp (fX9_digest_L44 mRts mLns mOpn (nI v)) FU (s, 0) = some (itr (fun i s => 31 * s + (vO (fX9_partOf mRts mLns mOpn (nI v) (nI i))).toInt64) 0 3 s, nI 3) := by
    intro v s hv
    exact (lp_for (F := fX9_digest_L44 mRts mLns mOpn (nI v)) (fun i (s : Int64) => (s, nI i)) (fun i s => 31 * s + (vO (fX9_partOf mRts mLns mOpn (nI v) (nI i))).toInt64) (fun _ _ => True) 3 (fun s => some (s, nI 3)) (fun k s _ => by
      dsimp only [fX9_digest_L44]
      rw [if_pos (by decide)]) (fun k i s hi _ => by
      refine ⟨?_, trivial⟩
      dsimp only [fX9_digest_L44]
      rw [if_neg (show ¬ (3 : Int32) ≤ nI i from nI_ge (b := 3) (by omega) (by decide)), (vO_e (key2 v i hv hi)).2, bd_s, nI_1]
      rfl) 3 FU 0 s (by omega) (FU_lt (by omega)) trivial).1
  have c1 := fun s0 => lp_for (F := fX8_digest_L33 (nI n) cRts cLns cOpn) (fun i (s : Int64) => (s, nI i)) (fun v s => itr (fun i s => 31 * s + (vO (fX9_partOf mRts mLns mOpn (nI v) (nI i))).toInt64) 0 3 s) (fun _ _ => True) n (fun s => some (s, nI n)) (fun k s _ => by
      dsimp only [fX8_digest_L33]
      rw [if_pos (Int32.le_refl _)]) (fun k i s hi _ => by
      refine ⟨?_, trivial⟩
      dsimp only [fX8_digest_L33]
      rw [if_neg (nI_ge hi (by omega)), b1 i s hi, bd_s, nI_1]) n FU 0 s0 (by omega) (FU_lt (by omega)) trivial
  have c2 := fun s0 => lp_for (F := fX9_digest_L33 (nI n) mRts mLns mOpn) (fun i (s : Int64) => (s, nI i)) (fun v s => itr (fun i s => 31 * s + (vO (fX9_partOf mRts mLns mOpn (nI v) (nI i))).toInt64) 0 3 s) (fun _ _ => True) n (fun s => some (s, nI n)) (fun k s _ => by
      dsimp only [fX9_digest_L33]
      rw [if_pos (Int32.le_refl _)]) (fun k i s hi _ => by
      refine ⟨?_, trivial⟩
      dsimp only [fX9_digest_L33]
      rw [if_neg (nI_ge hi (by omega)), b2 i s hi, bd_s, nI_1]) n FU 0 s0 (by omega) (FU_lt (by omega)) trivial
  have d1 := fun s0 => lp_for (F := fX8_digest_L85 (nI k) cSgn) (fun i (s : Int64) => (s, nI i)) (fun i s => 31 * s + (mAns i).toInt64) (fun _ _ => True) k (fun s => some (s, nI k)) (fun _ s _ => by
      dsimp only [fX8_digest_L85]
      rw [if_pos (Int32.le_refl _)]) (fun kk i s hi _ => by
      refine ⟨?_, trivial⟩
      obtain ⟨x, -, x1, x2⟩ := g4 i hi
      dsimp only [fX8_digest_L85]
      rw [if_neg (nI_ge hi (by omega)), if_pos (gI_n (show i < 400 by omega) (by decide)), nI_clamp (by omega), nI_1, x1, x2]) k FU 0 s0 (by omega) (FU_lt (by omega)) trivial
  have d2 := fun s0 => lp_for (F := fX9_digest_L79 (nI k) mAns) (fun i (s : Int64) => (s, nI i)) (fun i s => 31 * s + (mAns i).toInt64) (fun _ _ => True) k (fun s => some (s, nI k)) (fun _ s _ => by
      dsimp only [fX9_digest_L79]
      rw [if_pos (Int32.le_refl _)]) (fun kk i s hi _ => by
      refine ⟨?_, trivial⟩
      dsimp only [fX9_digest_L79]
      rw [if_neg (nI_ge hi (by omega)), if_pos (gI_n (show i < 400 by omega) (by decide)), nI_clamp (by omega), nI_1]) k FU 0 s0 (by omega) (FU_lt (by omega)) trivial
  have e9 : fX9_digest (nI n) mBad mFul (nI t) (nI k) mRts mLns mOpn mAns = fX8_digest mBad mFul (nI n) (nI (cntO cOpn n)) (nI t) (nI k) cRts cLns cOpn cSgn := by
    unfold fX9_digest fX8_digest
    rw [show (0 : Int32) = nI 0 from rfl, a2.1, a1.1, bd_s, bd_s]
    dsimp only
    rw [(c2 _).1, (c1 _).1, bd_s, bd_s]
    dsimp only
    rw [(d2 _).1, (d1 _).1]
  have e8 : ∃ rv, fX8_digest mBad mFul (nI n) (nI (cntO cOpn n)) (nI t) (nI k) cRts cLns cOpn cSgn = some rv := by
    unfold fX8_digest
    rw [show (0 : Int32) = nI 0 from rfl, a1.1, bd_s]
    dsimp only
    rw [(c1 _).1, bd_s]
    dsimp only
    rw [(d1 _).1, bd_s]
    exact ⟨_, rfl⟩
  obtain ⟨rv, e8⟩ := e8
  exact ⟨rv, e8, e9.trans e8⟩

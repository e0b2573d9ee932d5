/-! A sentence is done. -/
def wcd (w : Nat) : Nat := [1156, 508078, 631476, 605220, 463922, 6194, 23609, 781852974, 1420, 20141].getD w 0
def two (w : Nat) : Prop := w = 0 ∨ w = 3 ∨ w = 5 ∨ w = 6 ∨ w = 7
def Vd (w a b n : Nat) : Prop := (w = 0 ∧ a < n ∧ 1 ≤ b ∧ b ≤ 99 ∧ n < 60) ∨ (w = 1 ∧ a < n) ∨ (w = 2 ∧ a < n) ∨ (w = 3 ∧ 1 ≤ a ∧ a < n ∧ 1 ≤ b ∧ b ≤ 99) ∨ (w = 4 ∧ a < n) ∨ (w = 5 ∧ a < n ∧ b < n) ∨ (w = 6 ∧ a < n ∧ b < n) ∨ (w = 7 ∧ a < n ∧ b ≤ 99) ∨ w = 8 ∨ (w = 9 ∧ a < n)
def nx (w n : Nat) : Nat := if w = 0 then n + 1 else n
theorem g02 : gI (0 : Int32) 2 = true := by decide
theorem g12 : gI (1 : Int32) 2 = true := by decide
theorem cl0 : (0 : Int32).toNatClampNeg = 0 := by decide
theorem cl1 : (1 : Int32).toNatClampNeg = 1 := by decide
set_option maxRecDepth 20000 in
theorem tell_e {n : Nat} {rt ln : Nat → Nat} {cOpc : Int32} {cRts cLns cOpn cGps mRts mLns mOpn : Nat → Int32} (hL : LandR n rt ln (nI n) cOpc cRts cLns cOpn cGps (nI n) mRts mLns mOpn) {cLsz mSig : Int32} {cSgn mAns : Nat → Int32} (hA : LR cLsz cSgn mSig mAns) (cStp mWay : Int32) (cTrl mWys : Nat → Int32) {w a b : Nat} (hv : Vd w a b n) (N : Nat → Int32) (hN0 : w ≠ 8 → N 0 = nI a) (hN1 : two w → N 1 = nI b) :
    ∃ (xO xS xL : Int32) (xR xN xP xG xT xA : Nat → Int32) (yS yW : Int32) (yR yN yP yA yY : Nat → Int32) (rt' ln' : Nat → Nat), fX4_tell (nI n) cOpc cStp cLsz cRts cLns cOpn cGps cTrl cSgn (nI w) (nI a) (nI b) = some (nI (nx w n), xO, xS, xL, xR, xN, xP, xG, xT, xA) ∧ fX9_say (nI n) mSig mWay (nI (wcd w)) mRts mLns mOpn mAns mWys N = some (nI (nx w n), yS, yW, yR, yN, yP, yA, yY) ∧ LandR (nx w n) rt' ln' (nI (nx w n)) xO xR xN xP xG (nI (nx w n)) yR yN yP ∧ LR xL xA yS yA := by
  obtain ⟨h1, h60, -, -, hrt, hr0, hm0, hl0, hop, hoc, -⟩ := id hL
  have ho : ∀ v, v < n → mOpn v = cOpn v := fun v hv => (hop v hv).2
  rcases hv with ⟨rfl, ha, hb1, hb2, hn⟩ | ⟨rfl, ha⟩ | ⟨rfl, ha⟩ | ⟨rfl, ha1, ha, hb1, hb2⟩ | ⟨rfl, ha⟩ | ⟨rfl, ha, hb⟩ | ⟨rfl, ha, hb⟩ | ⟨rfl, ha, hb⟩ | rfl | ⟨rfl, ha⟩
  · have e0 := hN0 (by decide)
    have e1 := hN1 (show two 0 from by unfold two; decide)
    obtain ⟨g', f1, f2, hL2⟩ := settle_e hL hn ha hb1 hb2
    obtain ⟨c1, s1, y1, a1, k1, k2, hA2⟩ := num_e hA (v := n) (by omega)
    refine ⟨_, cStp, c1, _, _, _, g', cTrl, s1, y1, mWay, _, _, _, a1, mWys, _, _, ?_, ?_, hL2, hA2⟩
    · simp only [fX4_tell, if_pos (show nI 0 = (0 : Int32) from rfl), f1, bd_s, k1]
      all_goals rfl
    · show fX9_say (nI n) mSig mWay (nI 1156) mRts mLns mOpn mAns mWys N = _
      simp only [fX9_say, g02, g12, if_true, cl0, cl1, if_pos (show nI 1156 = (1156 : Int32) from rfl), e0, e1, f2, bd_s, k2]
      all_goals rfl
  · have e0 := hN0 (by decide)
    obtain ⟨r, o2, p2, m2, f1, f2, hr, hL2⟩ := setDepot_e hL ha (x := 1) (Or.inr rfl)
    obtain ⟨z, hz, rfl⟩ : ∃ z : Nat, z < 2 ∧ r = nI z := by
      rcases hr with rfl | rfl
      · exact ⟨0, by decide, rfl⟩
      · exact ⟨1, by decide, rfl⟩
    obtain ⟨c1, s1, y1, a1, k1, k2, hA2⟩ := num_e hA (v := z) (by omega)
    refine ⟨o2, cStp, c1, cRts, cLns, p2, cGps, cTrl, s1, y1, mWay, mRts, mLns, m2, a1, mWys, rt, ln, ?_, ?_, hL2, hA2⟩
    · simp only [fX4_tell, if_neg (show ¬ nI 1 = (0 : Int32) from by decide), if_pos (show nI 1 = (1 : Int32) from rfl), f1, bd_s, k1]
      all_goals rfl
    · show fX9_say (nI n) mSig mWay (nI 508078) mRts mLns mOpn mAns mWys N = _
      simp only [fX9_say, fX9_say_J113, fX9_say_J130, g02, g12, if_true, cl0, cl1, if_neg (show ¬ nI 508078 = (1156 : Int32) from by decide), if_neg (show ¬ nI 508078 = (1420 : Int32) from by decide), if_neg (show ¬ nI 508078 = (6194 : Int32) from by decide), if_neg (show ¬ nI 508078 = (23609 : Int32) from by decide), if_neg (show ¬ nI 508078 = (463922 : Int32) from by decide), if_pos (show nI 508078 = (508078 : Int32) from rfl), e0, f2, bd_s, k2]
      all_goals rfl
  · have e0 := hN0 (by decide)
    obtain ⟨r, o2, p2, m2, f1, f2, hr, hL2⟩ := setDepot_e hL ha (x := 0) (Or.inl rfl)
    obtain ⟨z, hz, rfl⟩ : ∃ z : Nat, z < 2 ∧ r = nI z := by
      rcases hr with rfl | rfl
      · exact ⟨0, by decide, rfl⟩
      · exact ⟨1, by decide, rfl⟩
    obtain ⟨c1, s1, y1, a1, k1, k2, hA2⟩ := num_e hA (v := z) (by omega)
    refine ⟨o2, cStp, c1, cRts, cLns, p2, cGps, cTrl, s1, y1, mWay, mRts, mLns, m2, a1, mWys, rt, ln, ?_, ?_, hL2, hA2⟩
    · simp only [fX4_tell, if_neg (show ¬ nI 2 = (0 : Int32) from by decide), if_neg (show ¬ nI 2 = (1 : Int32) from by decide), if_pos (show nI 2 = (2 : Int32) from rfl), f1, bd_s, k1]
      all_goals rfl
    · show fX9_say (nI n) mSig mWay (nI 631476) mRts mLns mOpn mAns mWys N = _
      simp only [fX9_say, fX9_say_J113, fX9_say_J130, g02, g12, if_true, cl0, cl1, if_neg (show ¬ nI 631476 = (1156 : Int32) from by decide), if_neg (show ¬ nI 631476 = (1420 : Int32) from by decide), if_neg (show ¬ nI 631476 = (6194 : Int32) from by decide), if_neg (show ¬ nI 631476 = (23609 : Int32) from by decide), if_neg (show ¬ nI 631476 = (463922 : Int32) from by decide), if_neg (show ¬ nI 631476 = (508078 : Int32) from by decide), if_neg (show ¬ nI 631476 = (605220 : Int32) from by decide), if_pos (show nI 631476 = (631476 : Int32) from rfl), e0, f2, bd_s, k2]
      all_goals rfl
  · have e0 := hN0 (by decide)
    have e1 := hN1 (show two 3 from by unfold two; decide)
    obtain ⟨g', f1, f2, hL2⟩ := setRoad_e hL ha1 ha hb1 hb2
    have hlv := (hrt a ha1 ha).2.2.2.2.1
    obtain ⟨c1, s1, y1, a1, k1, k2, hA2⟩ := num_e hA (v := ln a) (by omega)
    refine ⟨cOpc, cStp, c1, cRts, _, cOpn, g', cTrl, s1, y1, mWay, mRts, _, mOpn, a1, mWys, _, _, ?_, ?_, hL2, hA2⟩
    · simp only [fX4_tell, if_neg (show ¬ nI 3 = (0 : Int32) from by decide), if_neg (show ¬ nI 3 = (1 : Int32) from by decide), if_neg (show ¬ nI 3 = (2 : Int32) from by decide), if_pos (show nI 3 = (3 : Int32) from rfl), f1, bd_s, k1]
      all_goals rfl
    · show fX9_say (nI n) mSig mWay (nI 605220) mRts mLns mOpn mAns mWys N = _
      simp only [fX9_say, g02, g12, if_true, cl0, cl1, if_neg (show ¬ nI 605220 = (1156 : Int32) from by decide), if_neg (show ¬ nI 605220 = (1420 : Int32) from by decide), if_neg (show ¬ nI 605220 = (6194 : Int32) from by decide), if_neg (show ¬ nI 605220 = (23609 : Int32) from by decide), if_neg (show ¬ nI 605220 = (463922 : Int32) from by decide), if_neg (show ¬ nI 605220 = (508078 : Int32) from by decide), if_pos (show nI 605220 = (605220 : Int32) from rfl), e0, e1, f2, bd_s, k2]
      all_goals rfl
  · have e0 := hN0 (by decide)
    obtain ⟨x, f1, f2, hN⟩ := near_e hL.env ho ha
    have hx : ∀ b, x = some b → b < n := fun b e => by rw [e] at hN; exact hN.get.2.1
    have key : ∃ c1 s1 y1 a1, fX4_tellNearest (nI n) cLsz cOpn cGps cSgn (nI a) = some (c1, s1) ∧ fX9_sayNear (nI n) mSig mRts mLns mOpn mAns N = some (y1, a1) ∧ LR c1 s1 y1 a1 := by
      cases x with
      | none =>
        obtain ⟨c1, s1, y1, a1, k1, k2, hA2⟩ := put_e hA (x := 45) (by decide)
        refine ⟨c1, s1, y1, a1, ?_, ?_, hA2⟩
        · simp only [fX4_tellNearest, f1, bd_s, if_pos (show enc none = -1 from rfl), show fX2_put cLsz cSgn 45 = _ from k1]
        · simp only [fX9_sayNear, g02, if_true, cl0, e0, f2, bd_s, if_pos (show enc none = -1 from rfl), show fX9_putSign mSig mAns 45 = _ from k2]
      | some d =>
        have hd := hx d rfl
        have hdd := hL.env.2.2.2.2.2 a d ha hd
        obtain ⟨c1, s1, y1, a1, k1, k2, hA2⟩ := num_e hA (v := d) (by omega)
        obtain ⟨c2, s2, y2, a2, k3, k4, hA3⟩ := put_e hA2 (x := 64) (by decide)
        obtain ⟨c3, s3, y3, a3, k5, k6, hA4⟩ := num_e hA3 (v := dist rt ln a d) (by omega)
        have nm : ¬ enc (some d) = -1 := nI_nm1 (show d < 2 ^ 31 by omega)
        refine ⟨c3, s3, y3, a3, ?_, ?_, hA4⟩
        · simp only [fX4_tellNearest, f1, bd_s, if_neg nm]
          rw [show fX2_putNumber cLsz cSgn (enc (some d)) = _ from k1, bd_s]
          dsimp only
          rw [show fX2_put c1 s1 64 = _ from k3, bd_s]
          dsimp only
          rw [show fX1_gap cGps (nI a) (enc (some d)) = _ from hL.gap ha hd, bd_s, k5]
          rfl
        · simp only [fX9_sayNear, g02, if_true, cl0, e0, f2, bd_s, if_neg nm]
          rw [show fX9_putNumber mSig mAns (enc (some d)) = _ from k2, bd_s]
          dsimp only
          rw [show fX9_putSign y1 a1 64 = _ from k4, bd_s]
          dsimp only
          rw [show fX9_farFrom mRts mLns (enc (some d)) (nI a) = _ from hL.env.2.2.2.1 d a hd ha, bd_s, hL.env.2.2.2.2.1 d a hd ha, k6]
          rfl
    obtain ⟨c1, s1, y1, a1, k1, k2, hA2⟩ := key
    refine ⟨cOpc, cStp, c1, cRts, cLns, cOpn, cGps, cTrl, s1, y1, mWay, mRts, mLns, mOpn, a1, mWys, rt, ln, ?_, ?_, hL, hA2⟩
    · simp only [fX4_tell, if_neg (show ¬ nI 4 = (0 : Int32) from by decide), if_neg (show ¬ nI 4 = (1 : Int32) from by decide), if_neg (show ¬ nI 4 = (2 : Int32) from by decide), if_neg (show ¬ nI 4 = (3 : Int32) from by decide), if_pos (show nI 4 = (4 : Int32) from rfl), bd_s, k1]
      all_goals rfl
    · show fX9_say (nI n) mSig mWay (nI 463922) mRts mLns mOpn mAns mWys N = _
      simp only [fX9_say, g02, g12, if_true, cl0, cl1, if_neg (show ¬ nI 463922 = (1156 : Int32) from by decide), if_neg (show ¬ nI 463922 = (1420 : Int32) from by decide), if_neg (show ¬ nI 463922 = (6194 : Int32) from by decide), if_neg (show ¬ nI 463922 = (23609 : Int32) from by decide), if_pos (show nI 463922 = (463922 : Int32) from rfl), bd_s, k2]
      all_goals rfl
  · have e0 := hN0 (by decide)
    have e1 := hN1 (show two 5 from by unfold two; decide)
    have hdd := hL.env.2.2.2.2.2 a b ha hb
    obtain ⟨c1, s1, y1, a1, k1, k2, hA2⟩ := num_e hA (v := dist rt ln a b) (by omega)
    refine ⟨cOpc, cStp, c1, cRts, cLns, cOpn, cGps, cTrl, s1, y1, mWay, mRts, mLns, mOpn, a1, mWys, rt, ln, ?_, ?_, hL, hA2⟩
    · simp only [fX4_tell, if_neg (show ¬ nI 5 = (0 : Int32) from by decide), if_neg (show ¬ nI 5 = (1 : Int32) from by decide), if_neg (show ¬ nI 5 = (2 : Int32) from by decide), if_neg (show ¬ nI 5 = (3 : Int32) from by decide), if_neg (show ¬ nI 5 = (4 : Int32) from by decide), if_pos (show nI 5 = (5 : Int32) from rfl), hL.gap ha hb, bd_s, k1]
      all_goals rfl
    · show fX9_say (nI n) mSig mWay (nI 6194) mRts mLns mOpn mAns mWys N = _
      simp only [fX9_say, g02, g12, if_true, cl0, cl1, if_neg (show ¬ nI 6194 = (1156 : Int32) from by decide), if_neg (show ¬ nI 6194 = (1420 : Int32) from by decide), if_pos (show nI 6194 = (6194 : Int32) from rfl), e0, e1, hL.env.2.2.2.1 a b ha hb, bd_s, k2]
      all_goals rfl
  · have e0 := hN0 (by decide)
    have e1 := hN1 (show two 6 from by unfold two; decide)
    obtain ⟨s, U, U', f1, f2, hs1, hs, hag⟩ := way_e h60 (fun v p q => ⟨(hrt v p q).1, (hrt v p q).2.1, (hrt v p q).2.2.1⟩) ha hb cStp mWay cTrl mWys
    obtain ⟨c1, s1, y1, a1, k1, k2, hA2⟩ := wayl_e h60 hs hag s FU 0 cLsz mSig cSgn mAns (by omega) (FU_lt (by omega)) hA
    refine ⟨cOpc, nI s, c1, cRts, cLns, cOpn, cGps, U, s1, y1, nI s, mRts, mLns, mOpn, a1, U', rt, ln, ?_, ?_, hL, hA2⟩
    · simp only [fX4_tell, fX4_tellWay, if_neg (show ¬ nI 6 = (0 : Int32) from by decide), if_neg (show ¬ nI 6 = (1 : Int32) from by decide), if_neg (show ¬ nI 6 = (2 : Int32) from by decide), if_neg (show ¬ nI 6 = (3 : Int32) from by decide), if_neg (show ¬ nI 6 = (4 : Int32) from by decide), if_neg (show ¬ nI 6 = (5 : Int32) from by decide), if_pos (show nI 6 = (6 : Int32) from rfl), f1, bd_s, show lp (fX4_tellWay_L11 (nI s) U) FU ((0 : Int32), cLsz, cSgn) = _ from k1]
      all_goals rfl
    · show fX9_say (nI n) mSig mWay (nI 23609) mRts mLns mOpn mAns mWys N = _
      simp only [fX9_say, fX9_sayWay, g02, g12, if_true, cl0, cl1, if_neg (show ¬ nI 23609 = (1156 : Int32) from by decide), if_neg (show ¬ nI 23609 = (1420 : Int32) from by decide), if_neg (show ¬ nI 23609 = (6194 : Int32) from by decide), if_pos (show nI 23609 = (23609 : Int32) from rfl), e0, e1, f2, bd_s, show lp (fX9_sayWay_L18 (nI s) U') FU ((0 : Int32), mSig, mAns) = _ from k2]
      all_goals rfl
  · have e0 := hN0 (by decide)
    have e1 := hN1 (show two 7 from by unfold two; decide)
    obtain ⟨s, hs, f1, f2⟩ := within_e hL.env ho ha (nI b)
    obtain ⟨c1, s1, y1, a1, k1, k2, hA2⟩ := num_e hA (v := s) (by omega)
    refine ⟨cOpc, cStp, c1, cRts, cLns, cOpn, cGps, cTrl, s1, y1, mWay, mRts, mLns, mOpn, a1, mWys, rt, ln, ?_, ?_, hL, hA2⟩
    · simp only [fX4_tell, if_neg (show ¬ nI 7 = (0 : Int32) from by decide), if_neg (show ¬ nI 7 = (1 : Int32) from by decide), if_neg (show ¬ nI 7 = (2 : Int32) from by decide), if_neg (show ¬ nI 7 = (3 : Int32) from by decide), if_neg (show ¬ nI 7 = (4 : Int32) from by decide), if_neg (show ¬ nI 7 = (5 : Int32) from by decide), if_neg (show ¬ nI 7 = (6 : Int32) from by decide), if_pos (show nI 7 = (7 : Int32) from rfl), f1, bd_s, k1]
      all_goals rfl
    · show fX9_say (nI n) mSig mWay (nI 781852974) mRts mLns mOpn mAns mWys N = _
      simp only [fX9_say, g02, g12, if_true, cl0, cl1, if_neg (show ¬ nI 781852974 = (1156 : Int32) from by decide), if_neg (show ¬ nI 781852974 = (1420 : Int32) from by decide), if_neg (show ¬ nI 781852974 = (6194 : Int32) from by decide), if_neg (show ¬ nI 781852974 = (23609 : Int32) from by decide), if_neg (show ¬ nI 781852974 = (463922 : Int32) from by decide), if_neg (show ¬ nI 781852974 = (508078 : Int32) from by decide), if_neg (show ¬ nI 781852974 = (605220 : Int32) from by decide), if_neg (show ¬ nI 781852974 = (631476 : Int32) from by decide), if_pos (show nI 781852974 = (781852974 : Int32) from rfl), e0, e1, f2, bd_s, k2]
      all_goals rfl
  · obtain ⟨c1, s1, y1, a1, k1, k2, hA2⟩ := all_e h60 ho hA
    rw [← hoc] at k1
    refine ⟨cOpc, cStp, c1, cRts, cLns, cOpn, cGps, cTrl, s1, y1, mWay, mRts, mLns, mOpn, a1, mWys, rt, ln, ?_, ?_, hL, hA2⟩
    · simp only [fX4_tell, if_neg (show ¬ nI 8 = (0 : Int32) from by decide), if_neg (show ¬ nI 8 = (1 : Int32) from by decide), if_neg (show ¬ nI 8 = (2 : Int32) from by decide), if_neg (show ¬ nI 8 = (3 : Int32) from by decide), if_neg (show ¬ nI 8 = (4 : Int32) from by decide), if_neg (show ¬ nI 8 = (5 : Int32) from by decide), if_neg (show ¬ nI 8 = (6 : Int32) from by decide), if_neg (show ¬ nI 8 = (7 : Int32) from by decide), if_pos (show nI 8 = (8 : Int32) from rfl), k1, bd_s]
      all_goals rfl
    · show fX9_say (nI n) mSig mWay (nI 1420) mRts mLns mOpn mAns mWys N = _
      simp only [fX9_say, g02, g12, if_true, cl0, cl1, if_neg (show ¬ nI 1420 = (1156 : Int32) from by decide), if_pos (show nI 1420 = (1420 : Int32) from rfl), k2, bd_s]
      all_goals rfl
  · have e0 := hN0 (by decide)
    obtain ⟨s, hs, f1, f2⟩ := sum_e hL.env ho ha
    obtain ⟨c1, s1, y1, a1, k1, k2, hA2⟩ := num_e hA (v := s) (by omega)
    refine ⟨cOpc, cStp, c1, cRts, cLns, cOpn, cGps, cTrl, s1, y1, mWay, mRts, mLns, mOpn, a1, mWys, rt, ln, ?_, ?_, hL, hA2⟩
    · simp only [fX4_tell, if_neg (show ¬ nI 9 = (0 : Int32) from by decide), if_neg (show ¬ nI 9 = (1 : Int32) from by decide), if_neg (show ¬ nI 9 = (2 : Int32) from by decide), if_neg (show ¬ nI 9 = (3 : Int32) from by decide), if_neg (show ¬ nI 9 = (4 : Int32) from by decide), if_neg (show ¬ nI 9 = (5 : Int32) from by decide), if_neg (show ¬ nI 9 = (6 : Int32) from by decide), if_neg (show ¬ nI 9 = (7 : Int32) from by decide), if_neg (show ¬ nI 9 = (8 : Int32) from by decide), f1, bd_s, k1]
      all_goals rfl
    · show fX9_say (nI n) mSig mWay (nI 20141) mRts mLns mOpn mAns mWys N = _
      simp only [fX9_say, g02, g12, if_true, cl0, cl1, if_neg (show ¬ nI 20141 = (1156 : Int32) from by decide), if_neg (show ¬ nI 20141 = (1420 : Int32) from by decide), if_neg (show ¬ nI 20141 = (6194 : Int32) from by decide), if_neg (show ¬ nI 20141 = (23609 : Int32) from by decide), if_neg (show ¬ nI 20141 = (463922 : Int32) from by decide), if_neg (show ¬ nI 20141 = (508078 : Int32) from by decide), if_neg (show ¬ nI 20141 = (605220 : Int32) from by decide), if_neg (show ¬ nI 20141 = (631476 : Int32) from by decide), if_neg (show ¬ nI 20141 = (781852974 : Int32) from by decide), e0, f2, bd_s, k2]
      all_goals rfl

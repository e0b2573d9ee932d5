set_option maxRecDepth 20000 in
theorem op_within {cBad cFul cCnt cOpc cTsz cLsz mVil mBad mFul mLen mSig : Int32} {cRts cLns cOpn cGps cByt cSgn mRts mLns mOpn mTxt mAns : Nat → Int32} (h : Rel cBad cFul cCnt cOpc cTsz cLsz cRts cLns cOpn cGps cByt cSgn mVil mBad mFul mLen mSig mRts mLns mOpn mTxt mAns) (p0 p1 : Int32) : ∃ (rv : Int32) (zcBad : Int32) (zmBad : Int32), fX8_within cBad cCnt cOpn cGps p0 p1 = some (rv, zcBad) ∧ fX9_within mVil mBad mRts mLns mOpn p0 p1 = some (rv, zmBad) ∧ Rel zcBad cFul cCnt cOpc cTsz cLsz cRts cLns cOpn cGps cByt cSgn mVil zmBad mFul mLen mSig mRts mLns mOpn mTxt mAns := by
  obtain ⟨hB, hU, ⟨n, rt, ln, hL⟩, hT, hA⟩ := h
  subst hB hU
  obtain ⟨h1, h60, hc, hm, hrt, hr0, hm0, hl0, hop, -⟩ := id hL
  subst hc hm
  have e1 : (6000 : Int32).toInt = 6000 := by decide
  have e1' : (6000 : Int64).toInt = 6000 := by decide
  have e0' : (0 : Int64).toInt = 0 := by decide
  by_cases a0 : 0 ≤ p0.toInt ∧ p0.toInt < n
  · by_cases a1 : 0 ≤ p1.toInt ∧ p1.toInt ≤ 6000
    · obtain ⟨v, hv, rfl⟩ := exN a0.1 a0.2
      obtain ⟨s, -, f1, f2⟩ := within_e hL.env (fun w hw => (hop w hw).2) hv p1
      refine ⟨nI s, mBad, mBad, ?_, ?_, rfl, rfl, ⟨n, rt, ln, hL⟩, hT, hA⟩
      · simp only [fX8_within, has_n h60, if_pos a0, upto_e, e1, if_pos a1, bd_s, if_neg i1_0, f1]
      · simp only [fX9_within, isV_e h1 h60, if_pos a0, in_l _ _ _ e0' e1', if_pos a1, bd_s, if_neg i1_0, f2]
    · refine ⟨-2, mBad + 1, mBad + 1, ?_, ?_, rfl, rfl, ⟨n, rt, ln, hL⟩, hT, hA⟩
      · simp only [fX8_within, fX8_within_J21, fX8_refuseBad, has_n h60, if_pos a0, upto_e, e1, if_neg a1, bd_s, if_neg i1_0, if_true]
      · simp only [fX9_within, fX9_within_J29, fX9_refuse, isV_e h1 h60, if_pos a0, in_l _ _ _ e0' e1', if_neg a1, bd_s, if_neg i1_0, if_true]
  · refine ⟨-2, mBad + 1, mBad + 1, ?_, ?_, rfl, rfl, ⟨n, rt, ln, hL⟩, hT, hA⟩
    · simp only [fX8_within, fX8_within_J21, fX8_refuseBad, has_n h60, if_neg a0, bd_s, if_true]
    · simp only [fX9_within, fX9_within_J29, fX9_refuse, isV_e h1 h60, if_neg a0, bd_s, if_true]
set_option maxRecDepth 20000 in
theorem op_sum {cBad cFul cCnt cOpc cTsz cLsz mVil mBad mFul mLen mSig : Int32} {cRts cLns cOpn cGps cByt cSgn mRts mLns mOpn mTxt mAns : Nat → Int32} (h : Rel cBad cFul cCnt cOpc cTsz cLsz cRts cLns cOpn cGps cByt cSgn mVil mBad mFul mLen mSig mRts mLns mOpn mTxt mAns) (p0 : Int32) : ∃ (rv : Int32) (zcBad : Int32) (zmBad : Int32), fX8_sum cBad cCnt cOpn cGps p0 = some (rv, zcBad) ∧ fX9_sum mVil mBad mRts mLns mOpn p0 = some (rv, zmBad) ∧ Rel zcBad cFul cCnt cOpc cTsz cLsz cRts cLns cOpn cGps cByt cSgn mVil zmBad mFul mLen mSig mRts mLns mOpn mTxt mAns := by
  obtain ⟨hB, hU, ⟨n, rt, ln, hL⟩, hT, hA⟩ := h
  subst hB hU
  obtain ⟨h1, h60, hc, hm, hrt, hr0, hm0, hl0, hop, -⟩ := id hL
  subst hc hm
  by_cases a0 : 0 ≤ p0.toInt ∧ p0.toInt < n
  · obtain ⟨v, hv, rfl⟩ := exN a0.1 a0.2
    obtain ⟨s, -, f1, f2⟩ := sum_e hL.env (fun w hw => (hop w hw).2) hv
    refine ⟨nI s, mBad, mBad, ?_, ?_, rfl, rfl, ⟨n, rt, ln, hL⟩, hT, hA⟩
    · simp only [fX8_sum, has_n h60, if_pos a0, bd_s, if_neg i1_0, f1]
    · simp only [fX9_sum, isV_e h1 h60, if_pos a0, bd_s, if_neg i1_0, f2]
  · refine ⟨-2, mBad + 1, mBad + 1, ?_, ?_, rfl, rfl, ⟨n, rt, ln, hL⟩, hT, hA⟩
    · simp only [fX8_sum, fX8_refuseBad, has_n h60, if_neg a0, bd_s, if_true]
    · simp only [fX9_sum, fX9_refuse, isV_e h1 h60, if_neg a0, bd_s, if_true]
def wof (f : Nat → Nat) (p : Int32) : Option Nat → Int32
  | none => -1
  | some b => if p = 0 then nI b else nI (f b)
theorem whichOrFar_e {n : Nat} {d : Nat → Nat → Nat} {g R Ls : Nat → Int32} (E : EnvD n d g R Ls) {v : Nat} (hv : v < n) (x : Option Nat) (hx : ∀ b, x = some b → b < n) (p : Int32) : fX8_whichOrFar g (nI v) (enc x) p = some (wof (d v) p x) := by
  unfold fX8_whichOrFar fX8_whichOrFar_J9
  cases x with
  | none => rw [if_pos (show enc none = -1 from rfl)]; rfl
  | some b =>
    have hb := hx b rfl
    have := E.2.1
    rw [if_neg (show ¬ enc (some b) = -1 from nI_nm1 (by omega))]
    unfold wof
    by_cases e : p = 0
    · simp only [if_pos e]
      rfl
    · simp only [if_neg e]
      rw [show fX1_gap g (nI v) (enc (some b)) = _ from E.2.2.1 v b hv hb]
      rfl
set_option maxRecDepth 20000 in
theorem op_nearest {cBad cFul cCnt cOpc cTsz cLsz mVil mBad mFul mLen mSig : Int32} {cRts cLns cOpn cGps cByt cSgn mRts mLns mOpn mTxt mAns : Nat → Int32} (h : Rel cBad cFul cCnt cOpc cTsz cLsz cRts cLns cOpn cGps cByt cSgn mVil mBad mFul mLen mSig mRts mLns mOpn mTxt mAns) (p0 p1 : Int32) : ∃ (rv : Int32) (zcBad : Int32) (zmBad : Int32), fX8_nearest cBad cCnt cOpn cGps p0 p1 = some (rv, zcBad) ∧ fX9_nearest mVil mBad mRts mLns mOpn p0 p1 = some (rv, zmBad) ∧ Rel zcBad cFul cCnt cOpc cTsz cLsz cRts cLns cOpn cGps cByt cSgn mVil zmBad mFul mLen mSig mRts mLns mOpn mTxt mAns := by
  obtain ⟨hB, hU, ⟨n, rt, ln, hL⟩, hT, hA⟩ := h
  subst hB hU
  obtain ⟨h1, h60, hc, hm, hrt, hr0, hm0, hl0, hop, -⟩ := id hL
  subst hc hm
  have e1 : (1 : Int32).toInt = 1 := by decide
  have e1' : (1 : Int64).toInt = 1 := by decide
  have e0' : (0 : Int64).toInt = 0 := by decide
  by_cases a0 : 0 ≤ p0.toInt ∧ p0.toInt < n
  · by_cases a1 : 0 ≤ p1.toInt ∧ p1.toInt ≤ 1
    · obtain ⟨v, hv, rfl⟩ := exN a0.1 a0.2
      obtain ⟨x, f1, f2, hN⟩ := near_e hL.env (fun w hw => (hop w hw).2) hv
      have hx : ∀ b, x = some b → b < n := fun b e => by rw [e] at hN; exact hN.get.2.1
      refine ⟨wof (dist rt ln v) p1 x, mBad, mBad, ?_, ?_, rfl, rfl, ⟨n, rt, ln, hL⟩, hT, hA⟩
      · simp only [fX8_nearest, has_n h60, if_pos a0, upto_e, e1, if_pos a1, bd_s, if_neg i1_0, f1, whichOrFar_e hL.env hv x hx]
      · simp only [fX9_nearest, fX9_nearest_J38, isV_e h1 h60, if_pos a0, in_l _ _ _ e0' e1', if_pos a1, bd_s, if_neg i1_0, f2]
        cases x with
        | none =>
          rw [if_pos (show enc none = -1 from rfl)]
          split <;> rfl
        | some b =>
          have hb := hx b rfl
          rw [if_neg (show ¬ enc (some b) = -1 from nI_nm1 (by omega)), show fX9_farFrom mRts mLns (enc (some b)) (nI v) = _ from hL.env.2.2.2.1 b v hb hv, bd_s, hL.env.2.2.2.2.1 b v hb hv]
          unfold wof
          by_cases e : p1 = 0
          · simp only [if_pos e]; rfl
          · simp only [if_neg e]
    · refine ⟨-2, mBad + 1, mBad + 1, ?_, ?_, rfl, rfl, ⟨n, rt, ln, hL⟩, hT, hA⟩
      · simp only [fX8_nearest, fX8_nearest_J19, fX8_refuseBad, has_n h60, if_pos a0, upto_e, e1, if_neg a1, bd_s, if_neg i1_0, if_true]
      · simp only [fX9_nearest, fX9_nearest_J18, fX9_refuse, isV_e h1 h60, if_pos a0, in_l _ _ _ e0' e1', if_neg a1, bd_s, if_neg i1_0, if_true]
  · refine ⟨-2, mBad + 1, mBad + 1, ?_, ?_, rfl, rfl, ⟨n, rt, ln, hL⟩, hT, hA⟩
    · simp only [fX8_nearest, fX8_nearest_J19, fX8_refuseBad, has_n h60, if_neg a0, bd_s, if_true]
    · simp only [fX9_nearest, fX9_nearest_J18, fX9_refuse, isV_e h1 h60, if_neg a0, bd_s, if_true]
set_option maxRecDepth 20000 in
theorem op_turn {cBad cFul cCnt cOpc cTsz cLsz mVil mBad mFul mLen mSig : Int32} {cRts cLns cOpn cGps cByt cSgn mRts mLns mOpn mTxt mAns : Nat → Int32} (h : Rel cBad cFul cCnt cOpc cTsz cLsz cRts cLns cOpn cGps cByt cSgn mVil mBad mFul mLen mSig mRts mLns mOpn mTxt mAns) (p0 p1 p2 : Int32) : ∃ (rv : Int32) (zcBad : Int32) (zmBad : Int32), fX8_turn cBad cCnt cOpn cGps p0 p1 p2 = some (rv, zcBad) ∧ fX9_turn mVil mBad mRts mLns mOpn p0 p1 p2 = some (rv, zmBad) ∧ Rel zcBad cFul cCnt cOpc cTsz cLsz cRts cLns cOpn cGps cByt cSgn mVil zmBad mFul mLen mSig mRts mLns mOpn mTxt mAns := by
  obtain ⟨hB, hU, ⟨n, rt, ln, hL⟩, hT, hA⟩ := h
  subst hB hU
  obtain ⟨h1, h60, hc, hm, hrt, hr0, hm0, hl0, hop, -⟩ := id hL
  subst hc hm
  have e1 : (1 : Int32).toInt = 1 := by decide
  have e1' : (1 : Int64).toInt = 1 := by decide
  have e0' : (0 : Int64).toInt = 0 := by decide
  have ho := fun w hw => (hop w hw).2
  by_cases a0 : 0 ≤ p0.toInt ∧ p0.toInt < n
  · by_cases a2 : p1 < 0
    · refine ⟨-2, mBad + 1, mBad + 1, ?_, ?_, rfl, rfl, ⟨n, rt, ln, hL⟩, hT, hA⟩
      · simp only [fX8_turn, fX8_turn_J23, fX8_refuseBad, has_n h60, if_pos a0, if_pos a2, bd_s, if_neg i1_0]
      · simp only [fX9_turn, fX9_turn_J22, fX9_refuse, isV_e h1 h60, if_pos a0, if_pos a2, bd_s, if_neg i1_0]
    · by_cases a1 : 0 ≤ p2.toInt ∧ p2.toInt ≤ 1
      · obtain ⟨v, hv, rfl⟩ := exN a0.1 a0.2
        have E := hL.env
        have hx : ∀ b, srch (rkP cOpn (dist rt ln v) n p1) 0 n = some b → b < n := fun b e => by have := (srch_lt _ n 0 b e).1; omega
        have f2 : lp (fX9_turn_L30 (nI n) mBad mRts mLns mOpn (nI v) p1 p2) FU (0 : Int32) = some (wof (dist rt ln v) p2 (srch (rkP cOpn (dist rt ln v) n p1) 0 n), mBad) := by
          refine lp_find (rkP cOpn (dist rt ln v) n p1) n (fun x => some (wof (dist rt ln v) p2 x, mBad)) (fun k => ?_) (fun k i hi hp => ?_) (fun k i hi hp => ?_) n FU 0 (by omega) (FU_lt (by omega))
          · dsimp only [fX9_turn_L30]
            rw [if_pos (Int32.le_refl _)]
            rfl
          · obtain ⟨q1, q2⟩ := rkP_t.mp hp
            dsimp only [fX9_turn_L30, fX9_turn_J157]
            rw [if_neg (nI_ge hi (by omega)), (turnIn_e E ho hv hi).1 q1, bd_s, if_pos (gI_n (by omega) (by decide)), nI_clamp (by omega), ho i hi, if_neg q1]
            simp only [if_pos q2]
            rw [E.2.2.2.1 i v hi hv, bd_s, E.2.2.2.2.1 i v hi hv]
            unfold wof
            split <;> rfl
          · dsimp only [fX9_turn_L30, fX9_turn_J157]
            rw [if_neg (nI_ge hi (by omega))]
            by_cases e : cOpn i = 0
            · rw [(turnIn_e E ho hv hi).2 e, bd_s, if_pos (gI_n (by omega) (by decide)), nI_clamp (by omega), ho i hi, if_pos e, nI_1]
            · rw [(turnIn_e E ho hv hi).1 e, bd_s, if_pos (gI_n (by omega) (by decide)), nI_clamp (by omega), ho i hi, if_neg e]
              simp only [if_neg (fun q => hp (rkP_t.mpr ⟨e, q⟩))]
              rw [nI_1]
        refine ⟨wof (dist rt ln v) p2 (srch (rkP cOpn (dist rt ln v) n p1) 0 n), mBad, mBad, ?_, ?_, rfl, rfl, ⟨n, rt, ln, hL⟩, hT, hA⟩
        · simp only [fX8_turn, has_n h60, if_pos a0, if_neg a2, upto_e, e1, if_pos a1, bd_s, if_neg i1_0, ranked_e E hv, whichOrFar_e E hv _ hx]
        · simp only [fX9_turn, isV_e h1 h60, if_pos a0, if_neg a2, in_l _ _ _ e0' e1', if_pos a1, bd_s, if_neg i1_0, f2]
      · refine ⟨-2, mBad + 1, mBad + 1, ?_, ?_, rfl, rfl, ⟨n, rt, ln, hL⟩, hT, hA⟩
        · simp only [fX8_turn, fX8_turn_J23, fX8_refuseBad, has_n h60, if_pos a0, if_neg a2, upto_e, e1, if_neg a1, bd_s, if_neg i1_0, if_true]
        · simp only [fX9_turn, fX9_turn_J22, fX9_refuse, isV_e h1 h60, if_pos a0, if_neg a2, in_l _ _ _ e0' e1', if_neg a1, bd_s, if_neg i1_0, if_true]
  · refine ⟨-2, mBad + 1, mBad + 1, ?_, ?_, rfl, rfl, ⟨n, rt, ln, hL⟩, hT, hA⟩
    · simp only [fX8_turn, fX8_turn_J23, fX8_refuseBad, has_n h60, if_neg a0, bd_s, if_true]
    · simp only [fX9_turn, fX9_turn_J22, fX9_refuse, isV_e h1 h60, if_neg a0, bd_s, if_true]
theorem near_srv {n : Nat} {o mo : Nat → Int32} {f : Nat → Nat} (ho : ∀ v, v < n → mo v = o v) {u : Nat} (hu : u < n) {x : Option Nat} (h : Near 0 n (fun j => ¬ upd mo u 1 j = 0) f x) : x = some u ↔ cbN o f u n = 0 := by
  have op : ∀ j, j < n → (¬ upd mo u 1 j = 0 ↔ j = u ∨ ¬ o j = 0) := by
    intro j hj
    by_cases q : j = u
    · subst q
      rw [upd_s]
      exact ⟨fun _ => Or.inl rfl, fun _ => i1_0⟩
    · rw [upd_n q, ho j hj]
      exact ⟨fun z => Or.inr z, fun z => z.resolve_left q⟩
  constructor
  · intro e
    subst e
    obtain ⟨-, -, -, z4⟩ := h.get
    exact cbN_0.mpr (fun i hi e => z4 i (by omega) hi ((op i hi).mpr (Or.inr e)))
  · intro e
    refine h.uniq (Near.put ⟨by omega, hu, (op u hu).mpr (Or.inl rfl), fun i _ hi q => ?_⟩)
    rcases (op i hi).mp q with z | z
    · subst z
      omega
    · exact cbN_0.mp e i hi z
set_option maxRecDepth 20000 in
theorem op_serves {cBad cFul cCnt cOpc cTsz cLsz mVil mBad mFul mLen mSig : Int32} {cRts cLns cOpn cGps cByt cSgn mRts mLns mOpn mTxt mAns : Nat → Int32} (h : Rel cBad cFul cCnt cOpc cTsz cLsz cRts cLns cOpn cGps cByt cSgn mVil mBad mFul mLen mSig mRts mLns mOpn mTxt mAns) (p0 : Int32) : ∃ (rv : Int32) (zcBad : Int32) (zmBad : Int32) (zmOpn : Nat → Int32), fX8_serves cBad cCnt cOpn cGps p0 = some (rv, zcBad) ∧ fX9_serves mVil mBad mRts mLns mOpn p0 = some (rv, zmBad, zmOpn) ∧ Rel zcBad cFul cCnt cOpc cTsz cLsz cRts cLns cOpn cGps cByt cSgn mVil zmBad mFul mLen mSig mRts mLns zmOpn mTxt mAns := by
  obtain ⟨hB, hU, ⟨n, rt, ln, hL⟩, hT, hA⟩ := h
  subst hB hU
  obtain ⟨h1, h60, hc, hm, hrt, hr0, hm0, hl0, hop, hrest⟩ := id hL
  subst hc hm
  have ho := fun w hw => (hop w hw).2
  by_cases a0 : 0 ≤ p0.toInt ∧ p0.toInt < n
  · obtain ⟨u, hu, rfl⟩ := exN a0.1 a0.2
    have E := hL.env
    have c1 := lp_for (F := fX0_countServed_L4 (nI n) cOpn cGps (nI u)) (fun i s => (nI s, nI i)) (fun i s => s + (if cbN cOpn (dist rt ln i) u n = 0 then 1 else 0)) (fun _ _ => True) n (fun s => some (nI s, nI n)) (fun k s _ => by
      dsimp only [fX0_countServed_L4]
      rw [if_pos (Int32.le_refl _)]) (fun k i s hi hs => by
      refine ⟨?_, trivial⟩
      dsimp only [fX0_countServed_L4, fX0_countServed_J27]
      have hle := cbN_le cOpn (dist rt ln i) u n
      rw [if_neg (nI_ge hi (by omega)), before_e E hi hu, bd_s]
      by_cases e : cbN cOpn (dist rt ln i) u n = 0
      · rw [if_pos (by rw [e]; rfl), if_pos e, nI_1, nI_1]
      · rw [if_neg (nI_ne0 (by omega) (by omega)), if_neg e, nI_1]
        rfl) n FU 0 0 (by omega) (FU_lt (by omega)) trivial
    have c2 := lp_for (F := fX9_serves_L32 (nI n) mRts mLns mOpn (nI u)) (fun i s => (nI s, nI i)) (fun i s => s + (if cbN cOpn (dist rt ln i) u n = 0 then 1 else 0)) (fun _ _ => True) n (fun s => some (nI s, nI n)) (fun k s _ => by
      dsimp only [fX9_serves_L32]
      rw [if_pos (Int32.le_refl _)]) (fun k i s hi hs => by
      refine ⟨?_, trivial⟩
      dsimp only [fX9_serves_L32, fX9_serves_J57]
      rw [if_neg (nI_ge hi (by omega)), nI_clamp (show u < 2 ^ 31 by omega), nar_b1]
      obtain ⟨x, q1, q2⟩ := nearestOf_e (mo := upd mOpn u 1) E hi
      have q3 := near_srv ho hu q2
      rw [q1, bd_s]
      by_cases e : cbN cOpn (dist rt ln i) u n = 0
      · rw [if_pos (show enc x = nI u from by rw [q3.mpr e]; rfl), if_pos e]
        exact congrArg k (pr2 (nI_add s 1) (nI_1 i))
      · rw [if_neg (show ¬ enc x = nI u from fun z => e (q3.mp (by
          cases x with
          | none => exact absurd z.symm (nI_nm1 (by omega))
          | some b =>
            have hb := q2.get.2.1
            rw [show enc (some b) = nI b from rfl, nI_eq (by omega) (by omega)] at z
            rw [z]))), if_neg e]
        exact congrArg k (pr2 (nI_add s 0) (nI_1 i))) n FU 0 0 (by omega) (FU_lt (by omega)) trivial
    have hmu : vp_nar .boolean (mOpn u) = mOpn u := by
      obtain ⟨q1, q2⟩ := hop u hu
      rw [q2]
      rcases q1 with q | q <;> rw [q] <;> decide
    have hfun : upd (upd mOpn u 1) u (mOpn u) = mOpn := by
      funext j
      by_cases q : j = u
      · rw [q, upd_s]
      · rw [upd_n q, upd_n q]
    refine ⟨nI (itr (fun i s => s + (if cbN cOpn (dist rt ln i) u n = 0 then 1 else 0)) 0 n 0), mBad, mBad, mOpn, ?_, ?_, rfl, rfl, ⟨n, rt, ln, hL⟩, hT, hA⟩
    · simp only [fX8_serves, fX0_countServed, has_n h60, if_pos a0, bd_s, if_neg i1_0]
      rw [show ((0 : Int32), (0 : Int32)) = (nI 0, nI 0) from rfl, c1.1]
      rfl
    · simp only [fX9_serves, isV_e h1 h60, if_pos a0, bd_s, if_neg i1_0, gI_n (show u < 60 by omega) (by decide), if_true, nI_clamp (show u < 2 ^ 31 by omega), nar_b1, hmu, hfun]
      rw [show ((0 : Int32), (0 : Int32)) = (nI 0, nI 0) from rfl, c2.1]
      rfl
  · refine ⟨-2, mBad + 1, mBad + 1, mOpn, ?_, ?_, rfl, rfl, ⟨n, rt, ln, hL⟩, hT, hA⟩
    · simp only [fX8_serves, fX8_refuseBad, has_n h60, if_neg a0, bd_s, if_true]
    · simp only [fX9_serves, fX9_refuse, isV_e h1 h60, if_neg a0, bd_s, if_true]

theorem upd_upd {f : Nat → Int32} {k : Nat} {x y : Int32} : upd (upd f k x) k y = upd f k y := by
  funext j
  by_cases q : j = k
  · subst q; rw [upd_s, upd_s]
  · rw [upd_n q, upd_n q, upd_n q]
/-- a depot that is shut is opened -/
theorem openNew {n : Nat} {rt ln : Nat → Nat} {cCnt cOpc : Int32} {cRts cLns cOpn cGps : Nat → Int32} {mVil : Int32} {mRts mLns mOpn : Nat → Int32} (hL : LandR n rt ln cCnt cOpc cRts cLns cOpn cGps mVil mRts mLns mOpn) {v : Nat} (hv : v < n) (h0 : cOpn v = 0) :
    fX1_setDepot cCnt cOpc cOpn (nI v) 1 = some (1, cOpc + 1, upd cOpn v 1) ∧ LandR n rt ln cCnt (cOpc + 1) cRts cLns (upd cOpn v 1) cGps mVil mRts mLns (upd mOpn v 1) := by
  have h60 : n ≤ 60 := hL.2.1
  have hm0 : mOpn v = 0 := by rw [(hL.2.2.2.2.2.2.2.2.1 v hv).2, h0]
  have n01 : ¬ (0 : Int32) = 1 := by decide
  obtain ⟨r, c2, o2, m2, f1, f2, -, h⟩ := setDepot_e hL hv (x := 1) (Or.inr rfl)
  have g1 : fX1_setDepot cCnt cOpc cOpn (nI v) 1 = some (1, cOpc + 1, upd cOpn v 1) := by
    simp only [fX1_setDepot, fX1_setDepot_J41, hL.2.2.1, has_v h60 hv, bd_s, gI_n (show v < 60 by omega) (by decide), nI_clamp (show v < 2 ^ 31 by omega), h0, if_neg n01, if_true, nar_b1, if_neg i1_0]
  have g2 : ∃ q, fX9_becomes mOpn (nI v) 1 = some (q, upd mOpn v 1) := by
    refine ⟨1, ?_⟩
    simp only [fX9_becomes, gI_n (show v < 60 by omega) (by decide), nI_clamp (show v < 2 ^ 31 by omega), hm0, if_neg n01, if_true, nar_b1]
  obtain ⟨q, g2⟩ := g2
  rw [g1] at f1
  rw [g2] at f2
  obtain ⟨-, e2⟩ := Prod.mk.inj (Option.some.inj f1)
  obtain ⟨e2, e3⟩ := Prod.mk.inj e2
  obtain ⟨-, e4⟩ := Prod.mk.inj (Option.some.inj f2)
  subst e2 e3 e4
  exact ⟨g1, h⟩
def lcg (x : Nat) : Nat := (x * 1103515245 + 12345) % 2147483648
theorem lcg_e {x : Nat} (h : x < 2147483648) : lN x * (1103515245 : Int64) + (12345 : Int64) - (lN x * (1103515245 : Int64) + (12345 : Int64)) / (2147483648 : Int64) * (2147483648 : Int64) = lN (lcg x) := by
  rw [show (1103515245 : Int64) = lN 1103515245 from rfl, show (12345 : Int64) = lN 12345 from rfl, show (2147483648 : Int64) = lN 2147483648 from rfl, lN_mul, lN_add, pk_lRem (by omega) (by decide) (by decide)]
  rfl
theorem lcg_lt (x : Nat) : lcg x < 2147483648 := Nat.mod_lt _ (by decide)
theorem lrem_e {y d r : Nat} (h : y < 2147483648) (hd : 0 < d) (hd2 : d < 2147483648) (hr : 0 < r) (hr2 : r < 2147483648) : lN y / lN d - lN y / lN d / lN r * lN r = lN (y / d % r) := by
  rw [pk_lDiv (by omega) hd (by omega), pk_lRem (Nat.lt_of_le_of_lt (Nat.div_le_self _ _) (by omega)) hr (by omega)]
theorem irem_e {y d r : Nat} (h : y < 2147483648) (hd : 0 < d) (hd2 : d < 2147483648) (hr : 0 < r) (hr2 : r < 2147483648) : (lN y / lN d).toInt32 - (lN y / lN d).toInt32 / nI r * nI r = nI (y / d % r) := by
  rw [pk_lDiv (by omega) hd (by omega), lN_i, pk_rem (Nat.lt_of_le_of_lt (Nat.div_le_self _ _) (by omega)) hr (by omega)]
theorem draw_lp (K : Nat) (hK : K ≤ 59) : ∀ (m f i x : Nat) (rt ln : Nat → Nat) (cOpc : Int32) (cRts cLns cOpn cGps mRts mLns mOpn : Nat → Int32), i + m = K → m < f → x < 2147483648 → LandR (i + 1) rt ln (nI (i + 1)) cOpc cRts cLns cOpn cGps (nI (i + 1)) mRts mLns mOpn →
    ∃ (X : Int64) (zo : Int32) (zr zl zp zg yr yl yp : Nat → Int32) (rt' ln' : Nat → Nat), lp (fX1_sow_L11 (nI K)) f (lN x, nI i, nI (i + 1), cOpc, cRts, cLns, cOpn, cGps) = some (X, nI K, nI (K + 1), zo, zr, zl, zp, zg) ∧ lp (fX9_draw_L43 (nI K)) f (lN x, cOpc, nI i, nI (i + 1), mRts, mLns, mOpn) = some (X, zo, nI K, nI (K + 1), yr, yl, yp) ∧ LandR (K + 1) rt' ln' (nI (K + 1)) zo zr zl zp zg (nI (K + 1)) yr yl yp := by
  intro m
  induction m with
  | zero =>
    intro f i x rt ln cOpc cRts cLns cOpn cGps mRts mLns mOpn hi hf hx hL
    obtain rfl : i = K := by omega
    cases f with
    | zero => omega
    | succ f =>
      refine ⟨lN x, cOpc, cRts, cLns, cOpn, cGps, mRts, mLns, mOpn, rt, ln, ?_, ?_, hL⟩
      · show fX1_sow_L11 (nI i) (lp _ f) (lN x, nI i, nI (i + 1), cOpc, cRts, cLns, cOpn, cGps) = _
        dsimp only [fX1_sow_L11]
        rw [if_pos (Int32.le_refl _)]
      · show fX9_draw_L43 (nI i) (lp _ f) (lN x, cOpc, nI i, nI (i + 1), mRts, mLns, mOpn) = _
        dsimp only [fX9_draw_L43]
        rw [if_pos (Int32.le_refl _)]
  | succ m ih =>
    intro f i x rt ln cOpc cRts cLns cOpn cGps mRts mLns mOpn hi hf hx hL
    cases f with
    | zero => omega
    | succ f =>
      have hX := lcg_e hx
      have hy := lcg_lt x
      generalize lcg x = y at hX hy
      obtain ⟨g', f1, f2, hL2⟩ := settle_e hL (by omega) (r := y / 65536 % (i + 1)) (x := y / 1024 % 99 + 1) (Nat.mod_lt _ (by omega)) (by omega) (by omega)
      have d1 : lN y / (65536 : Int64) - lN y / (65536 : Int64) / (nI (i + 1)).toInt64 * (nI (i + 1)).toInt64 = lN (y / 65536 % (i + 1)) := by
        rw [nI_l (by omega)]
        exact lrem_e (d := 65536) hy (by decide) (by decide) (by omega) (by omega)
      have d1' : (lN y / (65536 : Int64)).toInt32 - (lN y / (65536 : Int64)).toInt32 / nI (i + 1) * nI (i + 1) = nI (y / 65536 % (i + 1)) := irem_e (d := 65536) hy (by decide) (by decide) (by omega) (by omega)
      have d2 : lN y / (1024 : Int64) - lN y / (1024 : Int64) / (99 : Int64) * (99 : Int64) = lN (y / 1024 % 99) := lrem_e (d := 1024) (r := 99) hy (by decide) (by decide) (by omega) (by omega)
      have d2' : (lN y / (1024 : Int64)).toInt32 - (lN y / (1024 : Int64)).toInt32 / (99 : Int32) * (99 : Int32) = nI (y / 1024 % 99) := irem_e (d := 1024) (r := 99) hy (by decide) (by decide) (by omega) (by omega)
      have d3 : lN y / (32768 : Int64) - lN y / (32768 : Int64) / (4 : Int64) * (4 : Int64) = lN (y / 32768 % 4) := lrem_e (d := 32768) (r := 4) hy (by decide) (by decide) (by omega) (by omega)
      have gm : gM (nI (i + 1)).toInt64 = true := by
        rw [nI_l (by omega)]
        unfold gM
        rw [decide_eq_false (show ¬ lN (i + 1) = 0 from fun e => by have := (lN_eq (a := i + 1) (b := 0) (by omega) (by decide)).mp e; omega)]
        rfl
      have gn : gN (nI (i + 1)) = true := by
        unfold gN
        rw [decide_eq_false (nI_ne0 (by omega) (by omega))]
        rfl
      have nk : ¬ nI K ≤ nI i := nI_ge (by omega) (by omega)
      have np : ¬ nI (i + 1) ≤ 0 := nI_nle (by omega) (by omega)
      have z0 : upd cOpn (i + 1) 0 (i + 1) = 0 := upd_s
      have hv := has_v (n := i + 1 + 1) (v := i + 1) (by omega) (by omega)
      have g60 := gI_n (i := i + 1) (n := 60) (by omega) (by decide)
      have cl := nI_clamp (n := i + 1) (by omega)
      by_cases q : y / 32768 % 4 = 0
      · obtain ⟨s1, hL3⟩ := openNew hL2 (v := i + 1) (by omega) z0
        obtain ⟨X, zo, zr, zl, zp, zg, yr, yl, yp, rt', ln', k1, k2, k3⟩ := ih f (i + 1) y _ _ _ _ _ _ _ _ _ _ (by omega) (by omega) hy hL3
        have e3 : lg_cmp (lN (y / 32768 % 4)) 0 = 0 := by rw [q]; exact (lg_cmp_eq _ _).mpr rfl
        refine ⟨X, zo, zr, zl, zp, zg, yr, yl, yp, rt', ln', ?_, ?_, k3⟩
        · show fX1_sow_L11 (nI K) (lp _ f) (lN x, nI i, nI (i + 1), cOpc, cRts, cLns, cOpn, cGps) = _
          dsimp only [fX1_sow_L11, fX1_sow_J99]
          rw [if_neg nk, if_neg np, if_pos gm, hX, d1, d2, d3, lN_i, lN_i, nI_1, f1, bd_s]
          dsimp only
          rw [hv, bd_s, if_neg i1_0, if_pos e3, s1, bd_s]
          dsimp only
          rw [nI_1]
          exact k1
        · show fX9_draw_L43 (nI K) (lp _ f) (lN x, cOpc, nI i, nI (i + 1), mRts, mLns, mOpn) = _
          dsimp only [fX9_draw_L43, fX9_draw_J116, fX9_draw_J134]
          rw [if_neg nk, if_pos gn, hX, d1', d2', d3, nI_1, f2, bd_s]
          dsimp only
          rw [if_pos e3, if_pos g60, if_pos g60, cl, nar_b1, upd_s, if_neg i1_0, nI_1]
          exact k2
      · obtain ⟨X, zo, zr, zl, zp, zg, yr, yl, yp, rt', ln', k1, k2, k3⟩ := ih f (i + 1) y _ _ _ _ _ _ _ _ _ _ (by omega) (by omega) hy hL2
        have e3 : ¬ lg_cmp (lN (y / 32768 % 4)) 0 = 0 := fun e => by
          have e2 : lN (y / 32768 % 4) = lN 0 := (lg_cmp_eq _ _).mp e
          exact q ((lN_eq (by omega) (by decide)).mp e2)
        refine ⟨X, zo, zr, zl, zp, zg, yr, yl, yp, rt', ln', ?_, ?_, k3⟩
        · show fX1_sow_L11 (nI K) (lp _ f) (lN x, nI i, nI (i + 1), cOpc, cRts, cLns, cOpn, cGps) = _
          dsimp only [fX1_sow_L11, fX1_sow_J99]
          rw [if_neg nk, if_neg np, if_pos gm, hX, d1, d2, d3, lN_i, lN_i, nI_1, f1, bd_s]
          dsimp only
          rw [hv, bd_s, if_neg i1_0, if_neg e3, nI_1]
          exact k1
        · show fX9_draw_L43 (nI K) (lp _ f) (lN x, cOpc, nI i, nI (i + 1), mRts, mLns, mOpn) = _
          dsimp only [fX9_draw_L43, fX9_draw_J116, fX9_draw_J134]
          rw [if_neg nk, if_pos gn, hX, d1', d2', d3, nI_1, f2, bd_s]
          dsimp only
          rw [if_neg e3, if_pos g60, if_pos g60, cl, nar_b0, upd_s, if_pos rfl, nI_1, upd_upd, i_a0]
          exact k2
set_option maxRecDepth 20000 in
theorem op_draw {cBad cFul cCnt cOpc cTsz cLsz mVil mBad mFul mLen mSig : Int32} {cRts cLns cOpn cGps cByt cSgn mRts mLns mOpn mTxt mAns : Nat → Int32} (h : Rel cBad cFul cCnt cOpc cTsz cLsz cRts cLns cOpn cGps cByt cSgn mVil mBad mFul mLen mSig mRts mLns mOpn mTxt mAns) (p0 p1 : Int32) : ∃ (rv : Int32) (zcBad : Int32) (zcCnt : Int32) (zcOpc : Int32) (zcRts : Nat → Int32) (zcLns : Nat → Int32) (zcOpn : Nat → Int32) (zcGps : Nat → Int32) (zmVil : Int32) (zmBad : Int32) (zmRts : Nat → Int32) (zmLns : Nat → Int32) (zmOpn : Nat → Int32), fX8_draw cBad cCnt cOpc cRts cLns cOpn cGps p0 p1 = some (rv, zcBad, zcCnt, zcOpc, zcRts, zcLns, zcOpn, zcGps) ∧ fX9_draw mVil mBad mRts mLns mOpn p0 p1 = some (rv, zmVil, zmBad, zmRts, zmLns, zmOpn) ∧ Rel zcBad cFul zcCnt zcOpc cTsz cLsz zcRts zcLns zcOpn zcGps cByt cSgn zmVil zmBad mFul mLen mSig zmRts zmLns zmOpn mTxt mAns := by
  obtain ⟨hB, hU, ⟨n, rt, ln, hL⟩, hT, hA⟩ := h
  subst hB hU
  have e9 : (999999 : Int32).toInt = 999999 := by decide
  have e9' : (999999 : Int64).toInt = 999999 := by decide
  have e5 : (59 : Int32).toInt = 59 := by decide
  have e5' : (59 : Int64).toInt = 59 := by decide
  have e0' : (0 : Int64).toInt = 0 := by decide
  by_cases a0 : 0 ≤ p0.toInt ∧ p0.toInt ≤ 999999
  · by_cases a1 : 0 ≤ p1.toInt ∧ p1.toInt ≤ 59
    · obtain ⟨x, hx, rfl⟩ := exN (k := 1000000) a0.1 (by omega)
      obtain ⟨K, hK, rfl⟩ := exN (k := 60) a1.1 (by omega)
      obtain ⟨n1, h60, hc, hm, hrt, hr0, hm0, hl0, hop, hoc, hg, hd⟩ := hL
      subst hc hm
      have hL1 : LandR 1 rt ln (nI 1) 0 (upd cRts 0 (-1)) (upd cLns 0 0) (upd cOpn 0 0) cGps (nI 1) mRts mLns (upd mOpn 0 0) := by
        refine ⟨by decide, by decide, rfl, rfl, fun v a b => absurd b (by omega), upd_s, hm0, upd_s, fun v hv => ?_, ?_, fun u v hu hv => ?_, hd⟩
        · obtain rfl : v = 0 := by omega
          exact ⟨Or.inl upd_s, by rw [upd_s, upd_s]⟩
        · simp [cntO, upd_s]
          rfl
        · obtain rfl : u = 0 := by omega
          obtain rfl : v = 0 := by omega
          exact hg 0 0 (by omega) (by omega)
      obtain ⟨X, zo, zr, zl, zp, zg, yr, yl, yp, rt', ln', k1, k2, k3⟩ := draw_lp K (by omega) K FU 0 x _ _ _ _ _ _ _ _ _ _ (by omega) (FU_lt (by omega)) (by omega) hL1
      refine ⟨zo, mBad, nI (K + 1), zo, zr, zl, zp, zg, nI (K + 1), mBad, yr, yl, yp, ?_, ?_, rfl, rfl, ⟨K + 1, rt', ln', k3⟩, hT, hA⟩
      · have q : fX1_sow (nI n) cOpc cRts cLns cOpn cGps (nI x) (nI K) = some (zo, nI (K + 1), zo, zr, zl, zp, zg) := by
          unfold fX1_sow
          rw [show fX1_empty (nI n) cOpc cRts cLns cOpn = some (nI n, nI 1, 0, upd cRts 0 (-1), upd cLns 0 0, upd cOpn 0 0) from rfl, bd_s]
          dsimp only
          rw [nI_l (by omega), show (0 : Int32) = nI 0 from rfl]
          rw [show lp (fX1_sow_L11 (nI K)) FU (lN x, nI 0, nI 1, nI 0, upd cRts 0 (-1), upd cLns 0 (nI 0), upd cOpn 0 (nI 0), cGps) = some (X, nI K, nI (K + 1), zo, zr, zl, zp, zg) from k1]
          rfl
        simp only [fX8_draw, upto_e, e9, if_pos a0, bd_s, if_neg i1_0, e5, if_pos a1, q]
      · simp only [fX9_draw, in_l _ _ _ e0' e9', if_pos a0, bd_s, if_neg i1_0, in_l _ _ _ e0' e5', if_pos a1]
        rw [show fX9_anew (nI n) mOpn = some (nI n, nI 1, upd mOpn 0 0) from rfl, bd_s]
        dsimp only
        rw [nI_l (by omega)]
        rw [show lp (fX9_draw_L43 (nI K)) FU (lN x, 0, 0, nI 1, mRts, mLns, upd mOpn 0 0) = some (X, zo, nI K, nI (K + 1), yr, yl, yp) from k2]
        rfl
    · refine ⟨-2, mBad + 1, cCnt, cOpc, cRts, cLns, cOpn, cGps, mVil, mBad + 1, mRts, mLns, mOpn, ?_, ?_, rfl, rfl, ⟨n, rt, ln, hL⟩, hT, hA⟩
      · simp only [fX8_draw, fX8_draw_J18, fX8_refuseBad, upto_e, e9, if_pos a0, e5, if_neg a1, bd_s, if_neg i1_0, if_true]
      · simp only [fX9_draw, fX9_draw_J24, fX9_refuse, in_l _ _ _ e0' e9', if_pos a0, in_l _ _ _ e0' e5', if_neg a1, bd_s, if_neg i1_0, if_true]
  · refine ⟨-2, mBad + 1, cCnt, cOpc, cRts, cLns, cOpn, cGps, mVil, mBad + 1, mRts, mLns, mOpn, ?_, ?_, rfl, rfl, ⟨n, rt, ln, hL⟩, hT, hA⟩
    · simp only [fX8_draw, fX8_draw_J18, fX8_refuseBad, upto_e, e9, if_neg a0, bd_s, if_true]
    · simp only [fX9_draw, fX9_draw_J24, fX9_refuse, in_l _ _ _ e0' e9', if_neg a0, bd_s, if_true]

set_option maxRecDepth 20000 in
theorem op_left {cBad cFul cCnt cOpc cTsz cLsz mVil mBad mFul mLen mSig mLef : Int32} {cRts cLns cOpn cGps cRch cByt cSgn mRts mLns mOpn mTxt mAns : Nat → Int32} (h : Rel cBad cFul cCnt cOpc cTsz cLsz cRts cLns cOpn cGps cByt cSgn mVil mBad mFul mLen mSig mRts mLns mOpn mTxt mAns) (p0 : Int32) : ∃ (rv : Int32) (zcBad : Int32) (zcRch : Nat → Int32) (zmBad : Int32) (zmLef : Int32), fX8_left cBad cCnt cOpc cOpn cGps cRch p0 = some (rv, zcBad, zcRch) ∧ fX9_left mVil mBad mLef mRts mLns mOpn p0 = some (rv, zmBad, zmLef) ∧ Rel zcBad cFul cCnt cOpc cTsz cLsz cRts cLns cOpn cGps cByt cSgn mVil zmBad mFul mLen mSig mRts mLns mOpn mTxt mAns := by
  obtain ⟨hB, hU, ⟨n, rt, ln, hL⟩, hT, hA⟩ := h
  subst hB hU
  obtain ⟨h1, h60, hc, hm, hrt, hr0, hm0, hl0, hop, hoc, -⟩ := id hL
  subst hc hm
  have ho := fun w hw => (hop w hw).2
  have E := hL.env
  have e1 : (1 : Int32).toInt = 1 := by decide
  have e1' : (1 : Int64).toInt = 1 := by decide
  have e0' : (0 : Int64).toInt = 0 := by decide
  by_cases a0 : 0 ≤ p0.toInt ∧ p0.toInt ≤ 1
  · obtain ⟨N, hN⟩ := nearAll E ho
    have hle := cntO_le cOpn n
    by_cases z : cntO cOpn n = 0
    · have hz := (cntO_0 n).mp z
      have hNn : ∀ v, v < n → N v = none := fun v hv => (hN v hv).2.2.uniq (Near.put0 (fun i _ hi q => q (hz i hi)))
      have f2 : fX9_findLeft (nI n) mLef mRts mLns mOpn = some (-1, mLef) := findLeft_none h60 (fun v hv => by rw [(hN v hv).2.1, hNn v hv]; rfl)
      refine ⟨-1, mBad, cRch, mBad, mLef, ?_, ?_, rfl, rfl, ⟨n, rt, ln, hL⟩, hT, hA⟩
      · simp only [fX8_left, fX0_remotest, upto_e, e1, if_pos a0, bd_s, if_neg i1_0, if_pos (show cOpc = 0 from by rw [hoc, z]; rfl)]
      · simp only [fX9_left, fX9_left_J29, in_l _ _ _ e0' e1', if_pos a0, bd_s, if_neg i1_0, f2]
        split <;> rfl
    · have hsome : ∀ v, v < n → ∃ b, N v = some b ∧ b < n := by
        intro v hv
        have q := (hN v hv).2.2
        cases hx : N v with
        | none =>
          rw [hx] at q
          exact absurd ((cntO_0 n).mpr (fun i hi => Classical.byContradiction (fun w => q.get0 i (by omega) hi w))) z
        | some b =>
          rw [hx] at q
          exact ⟨b, rfl, q.get.2.1⟩
      have f2 := findLeft_some (lef := mLef) E (fun v hv => ⟨(hN v hv).2.1, hsome v hv⟩)
      obtain ⟨r', g1, g2⟩ := reach_e E (fun v hv => ⟨(hN v hv).1, (hN v hv).2.2⟩) cRch
      have hmm : ∀ v, v < n → dmo (dist rt ln) v (N v) ≤ 11682 := by
        intro v hv
        obtain ⟨b, e, hb⟩ := hsome v hv
        rw [e]
        exact E.2.2.2.2.2 v b hv hb
      have c1 := lp_for (F := fX0_remotest_L28 (nI n) r') (fun i (s : Nat × Nat) => (nI s.1, nI s.2, nI i)) (gL (fun v => dmo (dist rt ln) v (N v))) (fun _ s => s.1 ≤ 11682) n (fun s => some (nI s.1, nI s.2, nI n)) (fun k s _ => by
          dsimp only [fX0_remotest_L28]
          rw [if_pos (Int32.le_refl _)]) (fun k i s hi hs => by
          have hmi := hmm i hi
          dsimp only [fX0_remotest_L28, fX0_remotest_J62]
          unfold gL
          rw [if_neg (nI_ge hi (by omega)), if_pos (gI_n (by omega) (by decide)), nI_clamp (by omega), g2 i hi, nI_1]
          by_cases w : dmo (dist rt ln) i (N i) ≤ s.1
          · simp only [if_pos w, if_pos (nI_le w (show s.1 < 2 ^ 31 by omega))]
            exact ⟨trivial, hs⟩
          · simp only [if_neg w, if_neg (nI_ge (a := s.1) (b := dmo (dist rt ln) i (N i)) (by omega) (by omega)), if_pos (gI_n (show i < 60 by omega) (by decide))]
            exact ⟨trivial, hmi⟩) (n - 1) FU 1 (dmo (dist rt ln) 0 (N 0), 0) (by omega) (FU_lt (by omega)) (hmm 0 h1)
      have hb := gL_lt (fun v => dmo (dist rt ln) v (N v)) 11682 n hmm (n - 1) 1 (dmo (dist rt ln) 0 (N 0), 0) (by omega) (hmm 0 h1) h1
      generalize itr (gL (fun v => dmo (dist rt ln) v (N v))) 1 (n - 1) (dmo (dist rt ln) 0 (N 0), 0) = x at c1 f2 hb
      refine ⟨if p0 = 0 then nI x.1 else nI x.2, mBad, r', mBad, nI x.2, ?_, ?_, rfl, rfl, ⟨n, rt, ln, hL⟩, hT, hA⟩
      · simp only [fX8_left, fX0_remotest, upto_e, e1, if_pos a0, bd_s, if_neg i1_0, if_neg (show ¬ cOpc = 0 from by rw [hoc]; exact nI_ne0 (by omega) (by omega)), g1, if_pos (show gI (0 : Int32) 60 = true from by decide)]
        rw [show r' (0 : Int32).toNatClampNeg = nI (dmo (dist rt ln) 0 (N 0)) from g2 0 h1, show (nI (dmo (dist rt ln) 0 (N 0)), (0 : Int32), (1 : Int32)) = (nI (dmo (dist rt ln) 0 (N 0)), nI 0, nI 1) from rfl, show lp (fX0_remotest_L28 (nI n) r') FU (nI (dmo (dist rt ln) 0 (N 0)), nI 0, nI 1) = _ from c1.1, bd_s]
        dsimp only
        split <;> rfl
      · simp only [fX9_left, fX9_left_J29, in_l _ _ _ e0' e1', if_pos a0, bd_s, if_neg i1_0, f2, if_neg (nI_nm1 (show x.1 < 2 ^ 31 by omega))]
        split <;> rfl
  · refine ⟨-2, mBad + 1, cRch, mBad + 1, mLef, ?_, ?_, rfl, rfl, ⟨n, rt, ln, hL⟩, hT, hA⟩
    · simp only [fX8_left, fX8_refuseBad, upto_e, e1, if_neg a0, bd_s, if_true]
    · simp only [fX9_left, fX9_refuse, in_l _ _ _ e0' e1', if_neg a0, bd_s, if_true]
def mnN (d : Nat → Nat → Nat) (N : Nat → Option Nat) (c i : Nat) : Nat := if d i c < dmo d i (N i) then d i c else dmo d i (N i)
def LW (n : Nat) (d : Nat → Nat → Nat) (N : Nat → Option Nat) (c : Nat) : Nat := itr (mx (mnN d N c)) 0 n 0
theorem mnN_le {n : Nat} {d : Nat → Nat → Nat} {g R Ls : Nat → Int32} (E : EnvD n d g R Ls) (N : Nat → Option Nat) {c i : Nat} (hc : c < n) (hi : i < n) : mnN d N c i ≤ 11682 := by
  have := E.2.2.2.2.2 i c hi hc
  unfold mnN
  split <;> omega
theorem leftWith_e {n : Nat} {d : Nat → Nat → Nat} {g R Ls r' : Nat → Int32} (E : EnvD n d g R Ls) {N : Nat → Option Nat} (hN : ∀ v b, v < n → N v = some b → b < n) (hr : ∀ v, v < n → r' v = nI (dmo d v (N v))) {c : Nat} (hc : c < n) : fX0_leftWith (nI n) g r' (nI c) = some (nI (LW n d N c)) := by
  have hmn := fun i hi => mnN_le E N hc (i := i) hi
  obtain ⟨n1, h60, eg, ef, sy, le⟩ := E
  have c1 := lp_for (F := fX0_leftWith_L4 (nI n) g r' (nI c)) (fun i s => (nI s, nI i)) (mx (mnN d N c)) (fun _ s => s ≤ 11682) n (fun s => some (nI s, nI n)) (fun k s _ => by
      dsimp only [fX0_leftWith_L4]
      rw [if_pos (Int32.le_refl _)]) (fun k i s hi hs => by
      have h1 := hmn i hi
      have hd := le i c hi hc
      have hdm : dmo d i (N i) < 2 ^ 31 := by
        cases hx : N i with
        | none => show 1000000 < 2 ^ 31; decide
        | some b => have := le i b hi (hN i b hi hx); show d i b < 2 ^ 31; omega
      refine ⟨?_, ?_⟩
      · dsimp only [fX0_leftWith_L4]
        rw [if_neg (nI_ge hi (by omega)), if_pos (gI_n (by omega) (by decide)), eg i c hi hc, bd_s, nI_clamp (by omega), hr i hi, nI_1]
        have e : (if nI (d i c) < nI (dmo d i (N i)) then nI (d i c) else nI (dmo d i (N i))) = nI (mnN d N c i) := by
          unfold mnN
          by_cases q : d i c < dmo d i (N i)
          · rw [if_pos (nI_lt q hdm), if_pos q]
          · rw [if_neg (nI_nlt (by omega) (by omega)), if_neg q]
        rw [e]
        unfold mx
        by_cases q : s < mnN d N c i
        · rw [if_pos (nI_lt q (by omega)), if_pos q]
        · rw [if_neg (nI_nlt (by omega) (by omega)), if_neg q]
      · unfold mx
        split <;> omega) n FU 0 0 (by omega) (FU_lt (by omega)) (by omega)
  unfold fX0_leftWith
  rw [show ((0 : Int32), (0 : Int32)) = (nI 0, nI 0) from rfl, c1.1]
  rfl
theorem LW_le {n : Nat} {d : Nat → Nat → Nat} {g R Ls : Nat → Int32} (E : EnvD n d g R Ls) (N : Nat → Option Nat) {c : Nat} (hc : c < n) : LW n d N c ≤ 11682 := mx_le _ 11682 n (fun i hi => mnN_le E N hc hi) n 0 0 (by omega) (by omega)
/-- one more depot: how far the nearest is then -/
theorem near_more {n : Nat} {d : Nat → Nat → Nat} {o mo : Nat → Int32} (ho : ∀ v, v < n → mo v = o v) {c v : Nat} (hc : c < n) (hle : d v c ≤ 11682) {x y : Option Nat} (hx : Near 0 n (fun i => ¬ o i = 0) (d v) x) (hy : Near 0 n (fun i => ¬ upd mo c 1 i = 0) (d v) y) : ∃ b, y = some b ∧ b < n ∧ d v b = (if d v c < dmo d v x then d v c else dmo d v x) := by
  have op : ∀ j, j < n → (¬ upd mo c 1 j = 0 ↔ j = c ∨ ¬ o j = 0) := by
    intro j hj
    by_cases q : j = c
    · subst q
      rw [upd_s]
      exact ⟨fun _ => Or.inl rfl, fun _ => i1_0⟩
    · rw [upd_n q, ho j hj]
      exact ⟨fun z => Or.inr z, fun z => z.resolve_left q⟩
  cases y with
  | none => exact absurd ((op c hc).mpr (Or.inl rfl)) (hy.get0 c (by omega) hc)
  | some b =>
    obtain ⟨-, y2, y3, y4⟩ := hy.get
    refine ⟨b, rfl, y2, ?_⟩
    have yc := y4 c (by omega) hc ((op c hc).mpr (Or.inl rfl))
    cases x with
    | none =>
      have hb : b = c := ((op b y2).mp y3).resolve_right (hx.get0 b (by omega) y2)
      rw [hb, if_pos (show d v c < dmo d v none from by show d v c < 1000000; omega)]
    | some a =>
      obtain ⟨-, x2, x3, x4⟩ := hx.get
      have ya := y4 a (by omega) x2 ((op a x2).mpr (Or.inr x3))
      show d v b = (if d v c < d v a then d v c else d v a)
      rcases (op b y2).mp y3 with q | q
      · rw [q] at ya yc ⊢
        split <;> omega
      · have xb := x4 b (by omega) y2 q
        split <;> omega
theorem moreLeft_e {n : Nat} {d : Nat → Nat → Nat} {g R Ls o mo : Nat → Int32} (E : EnvD n d g R Ls) (ho : ∀ v, v < n → mo v = o v) {N : Nat → Option Nat} (hN : ∀ v, v < n → Near 0 n (fun i => ¬ o i = 0) (d v) (N v)) {c : Nat} (hc : c < n) (lef : Int32) : ∃ w : Int32, fX9_findLeft (nI n) lef R Ls (upd mo c 1) = some (nI (LW n d N c), w) := by
  have h : ∀ v : Nat, ∃ x : Option Nat, v < n → fX9_nearestOf (nI n) R Ls (upd mo c 1) (nI v) = some (enc x) ∧ (∃ b, x = some b ∧ b < n) ∧ dmo d v x = mnN d N c v := by
    intro v
    by_cases hv : v < n
    · obtain ⟨y, q1, q2⟩ := nearestOf_e (mo := upd mo c 1) E hv
      obtain ⟨b, e, hb, hd⟩ := near_more ho hc (E.2.2.2.2.2 v c hv hc) (hN v hv) q2
      exact ⟨y, fun _ => ⟨q1, ⟨b, e, hb⟩, by rw [e]; exact hd⟩⟩
    · exact ⟨none, fun q => absurd q hv⟩
  obtain ⟨N', hN'⟩ := Classical.axiomOfChoice h
  have f := findLeft_some (lef := lef) E (N := N') (fun v hv => ⟨(hN' v hv).1, (hN' v hv).2.1⟩)
  refine ⟨_, f.trans (congrArg some (pr2 (congrArg nI ?_) rfl))⟩
  rw [gL_mx]
  unfold LW
  have n1 := E.1
  rw [show n = (n - 1) + 1 by omega, itr, Nat.add_sub_cancel]
  have e0 : mx (mnN d N c) 0 0 = dmo d 0 (N' 0) := by
    rw [(hN' 0 n1).2.2]
    unfold mx
    split <;> omega
  rw [e0]
  exact itr_cg (n - 1) (0 + 1) _ (fun j s a b => by
    unfold mx
    show (if s < dmo d j (N' j) then dmo d j (N' j) else s) = _
    rw [(hN' j (by omega)).2.2])
def bstn (l : Nat) (i : Nat) : Option (Nat × Nat) → Option (Nat × Nat)
  | none => some (i, l)
  | some q => if q.2 ≤ l then some q else some (i, l)
def bst (o : Nat → Int32) (L : Nat → Nat) (i : Nat) (s : Option (Nat × Nat)) : Option (Nat × Nat) := if o i = 0 then bstn (L i) i s else s
theorem bst_ok {o : Nat → Int32} {L : Nat → Nat} {i n : Nat} (hi : i < n) (hl : L i ≤ 11682) {s : Option (Nat × Nat)} (h : ∀ q, s = some q → q.1 < n ∧ q.2 ≤ 11682) : ∀ q, bst o L i s = some q → q.1 < n ∧ q.2 ≤ 11682 := by
  unfold bst
  split
  · cases s with
    | none => intro q e; cases e; exact ⟨hi, hl⟩
    | some q =>
      unfold bstn
      dsimp only
      split
      · exact h
      · intro q e; cases e; exact ⟨hi, hl⟩
  · exact h
set_option maxRecDepth 20000 in
theorem op_more {cBad cFul cCnt cOpc cTsz cLsz mVil mBad mFul mLen mSig mLef : Int32} {cRts cLns cOpn cGps cRch cByt cSgn mRts mLns mOpn mTxt mAns : Nat → Int32} (h : Rel cBad cFul cCnt cOpc cTsz cLsz cRts cLns cOpn cGps cByt cSgn mVil mBad mFul mLen mSig mRts mLns mOpn mTxt mAns) (p0 : Int32) : ∃ (rv : Int32) (zcBad : Int32) (zcRch : Nat → Int32) (zmBad : Int32) (zmLef : Int32) (zmOpn : Nat → Int32), fX8_more cBad cCnt cOpn cGps cRch p0 = some (rv, zcBad, zcRch) ∧ fX9_more mVil mBad mLef mRts mLns mOpn p0 = some (rv, zmBad, zmLef, zmOpn) ∧ Rel zcBad cFul cCnt cOpc cTsz cLsz cRts cLns cOpn cGps cByt cSgn mVil zmBad mFul mLen mSig mRts mLns zmOpn mTxt mAns := by
  obtain ⟨hB, hU, ⟨n, rt, ln, hL⟩, hT, hA⟩ := h
  subst hB hU
  obtain ⟨h1, h60, hc, hm, hrt, hr0, hm0, hl0, hop, hoc, -⟩ := id hL
  subst hc hm
  have ho := fun w hw => (hop w hw).2
  have E := hL.env
  have e1 : (1 : Int32).toInt = 1 := by decide
  have e1' : (1 : Int64).toInt = 1 := by decide
  have e0' : (0 : Int64).toInt = 0 := by decide
  by_cases a0 : 0 ≤ p0.toInt ∧ p0.toInt ≤ 1
  · obtain ⟨N, hN⟩ := nearAll E ho
    have hNb : ∀ v b, v < n → N v = some b → b < n := fun v b hv e => by have q := (hN v hv).2.2; rw [e] at q; exact q.get.2.1
    obtain ⟨r', g1, g2⟩ := reach_e E (fun v hv => ⟨(hN v hv).1, (hN v hv).2.2⟩) cRch
    have hlw : ∀ i, i < n → LW n (dist rt ln) N i ≤ 11682 := fun i hi => LW_le E N hi
    have c1 := lp_for (F := fX0_bestNew_L12 (nI n) cOpn cGps r') (fun i s => (pe (fun q => nI q.1) (-1) s, pe (fun q => nI q.2) 1000000 s, nI i)) (bst cOpn (LW n (dist rt ln) N)) (fun _ s => ∀ q, s = some q → q.1 < n ∧ q.2 ≤ 11682) n (fun s => some (pe (fun q => nI q.1) (-1) s, pe (fun q => nI q.2) 1000000 s, nI n)) (fun k s _ => by
        dsimp only [fX0_bestNew_L12]
        rw [if_pos (Int32.le_refl _)]) (fun k i s hi hs => by
        have hl := hlw i hi
        refine ⟨?_, bst_ok hi hl hs⟩
        dsimp only [fX0_bestNew_L12, fX0_bestNew_J48, fX0_bestNew_J62]
        unfold bst
        rw [if_neg (nI_ge hi (by omega)), if_pos (gI_n (by omega) (by decide)), nI_clamp (by omega), nI_1]
        by_cases e : cOpn i = 0
        · rw [if_pos e, if_pos e, leftWith_e E hNb g2 hi, bd_s]
          cases s with
          | none => rw [if_neg (show ¬ pe (fun q => nI q.2) 1000000 none ≤ nI (LW n (dist rt ln) N i) from nI_ge (a := LW n (dist rt ln) N i) (b := 1000000) (by omega) (by decide))]; rfl
          | some q =>
            have hq := (hs q rfl).2
            unfold bstn
            by_cases z : q.2 ≤ LW n (dist rt ln) N i
            · rw [if_pos (show pe (fun q => nI q.2) 1000000 (some q) ≤ nI (LW n (dist rt ln) N i) from nI_le z (by omega))]
              simp only [if_pos z]
            · rw [if_neg (show ¬ pe (fun q => nI q.2) 1000000 (some q) ≤ nI (LW n (dist rt ln) N i) from nI_ge (by omega) (by omega))]
              simp only [if_neg z]
              rfl
        · rw [if_neg e, if_neg e, if_pos (show pe (fun q => nI q.2) 1000000 s ≤ 1000000 from by
            cases s with
            | none => exact Int32.le_refl _
            | some q => exact nI_le (b := 1000000) (by have := (hs q rfl).2; omega) (by decide))]) n FU 0 none (by omega) (FU_lt (by omega)) (fun q e => by cases e)
    have hlef : ∀ (i : Nat) (lef : Int32), ∃ w : Int32, i < n → fX9_findLeft (nI n) lef mRts mLns (upd mOpn i 1) = some (nI (LW n (dist rt ln) N i), w) := by
      intro i lef
      by_cases hi : i < n
      · obtain ⟨w, hw⟩ := moreLeft_e E ho (fun v hv => (hN v hv).2.2) hi lef
        exact ⟨w, fun _ => hw⟩
      · exact ⟨0, fun q => absurd q hi⟩
    obtain ⟨wf, hwf⟩ : ∃ wf : Nat → Int32 → Int32, ∀ i lef, i < n → fX9_findLeft (nI n) lef mRts mLns (upd mOpn i 1) = some (nI (LW n (dist rt ln) N i), wf i lef) := by
      obtain ⟨f, hf⟩ := Classical.axiomOfChoice (fun i => Classical.axiomOfChoice (hlef i))
      exact ⟨f, hf⟩
    have c2 := lp_for (F := fX9_more_L22 (nI n) mRts mLns) (fun i (s : Option (Nat × Nat) × Int32) => (pe (fun q => nI q.1) (-1) s.1, pe (fun q => nI q.2) (-1) s.1, nI i, s.2, mOpn)) (fun i s => (bst cOpn (LW n (dist rt ln) N) i s.1, if cOpn i = 0 then wf i s.2 else s.2)) (fun _ s => ∀ q, s.1 = some q → q.1 < n ∧ q.2 ≤ 11682) n (fun s => some (pe (fun q => nI q.1) (-1) s.1, pe (fun q => nI q.2) (-1) s.1, nI n, s.2, mOpn)) (fun k s _ => by
        dsimp only [fX9_more_L22]
        rw [if_pos (Int32.le_refl _)]) (fun k i s hi hs => by
        have hl := hlw i hi
        refine ⟨?_, bst_ok hi hl hs⟩
        obtain ⟨s, lf⟩ := s
        dsimp only at hs ⊢
        dsimp only [fX9_more_L22, fX9_more_J74, fX9_more_J80, fX9_more_J92, fX9_more_J98, fX9_more_J99]
        unfold bst
        rw [if_neg (nI_ge hi (by omega)), if_pos (gI_n (show i < 60 by omega) (by decide)), nI_clamp (show i < 2 ^ 31 by omega), ho i hi, nI_1]
        by_cases e : cOpn i = 0
        · have hfun : upd (upd mOpn i 1) i 0 = mOpn := by
            funext j
            by_cases q : j = i
            · rw [q, upd_s, ho i hi, e]
            · rw [upd_n q, upd_n q]
          rw [if_pos e, if_pos e, if_pos e, if_pos (gI_n (show i < 60 by omega) (by decide)), nar_b1, nar_b0, hwf i lf hi, bd_s]
          dsimp only
          rw [if_pos (gI_n (show i < 60 by omega) (by decide)), hfun]
          cases s with
          | none => rw [if_pos (show pe (fun q => nI q.2) (-1) none = -1 from rfl), if_pos (show pe (fun q => nI q.2) (-1) none = -1 from rfl)]; rfl
          | some q =>
            have hq := (hs q rfl).2
            rw [if_neg (show ¬ pe (fun q => nI q.2) (-1) (some q) = -1 from nI_nm1 (by omega)), if_neg (show ¬ pe (fun q => nI q.2) (-1) (some q) = -1 from nI_nm1 (by omega)), if_neg (show ¬ pe (fun q => nI q.2) (-1) (some q) = -1 from nI_nm1 (by omega))]
            unfold bstn
            by_cases z : q.2 ≤ LW n (dist rt ln) N i
            · rw [if_pos (show pe (fun q => nI q.2) (-1) (some q) ≤ nI (LW n (dist rt ln) N i) from nI_le z (by omega)), if_pos (show pe (fun q => nI q.2) (-1) (some q) ≤ nI (LW n (dist rt ln) N i) from nI_le z (by omega))]
              simp only [if_pos z]
            · rw [if_neg (show ¬ pe (fun q => nI q.2) (-1) (some q) ≤ nI (LW n (dist rt ln) N i) from nI_ge (by omega) (by omega)), if_neg (show ¬ pe (fun q => nI q.2) (-1) (some q) ≤ nI (LW n (dist rt ln) N i) from nI_ge (by omega) (by omega))]
              simp only [if_neg z]
              rfl
        · rw [if_neg e, if_neg e, if_neg e]) n FU 0 (none, mLef) (by omega) (FU_lt (by omega)) (fun q e => by cases e)
    have hfst : ∀ k i s l, (itr (fun i (s : Option (Nat × Nat) × Int32) => (bst cOpn (LW n (dist rt ln) N) i s.1, if cOpn i = 0 then wf i s.2 else s.2)) i k (s, l)).1 = itr (bst cOpn (LW n (dist rt ln) N)) i k s := by
      intro k
      induction k with
      | zero => intro i s l; rfl
      | succ k ih => intro i s l; rw [itr, itr]; exact ih _ _ _
    have hf0 := hfst n 0 none mLef
    obtain ⟨c1, hx⟩ := c1
    obtain ⟨c2, -⟩ := c2
    generalize itr (fun i (s : Option (Nat × Nat) × Int32) => (bst cOpn (LW n (dist rt ln) N) i s.1, if cOpn i = 0 then wf i s.2 else s.2)) 0 n (none, mLef) = y at c2 hf0
    generalize itr (bst cOpn (LW n (dist rt ln) N)) 0 n none = x at c1 hf0 hx
    rw [hf0] at c2
    refine ⟨if p0 = 0 then pe (fun q => nI q.1) (-1) x else pe (fun q => nI q.2) (-1) x, mBad, r', mBad, y.2, mOpn, ?_, ?_, rfl, rfl, ⟨n, rt, ln, hL⟩, hT, hA⟩
    · simp only [fX8_more, fX0_bestNew, fX0_bestNew_J77, upto_e, e1, if_pos a0, bd_s, if_neg i1_0, g1]
      rw [show ((-1 : Int32), (1000000 : Int32), (0 : Int32)) = (pe (fun q => nI q.1) (-1) none, pe (fun q => nI q.2) 1000000 none, nI 0) from rfl, c1, bd_s]
      dsimp only
      cases x with
      | none =>
        rw [if_pos (show pe (fun q => nI q.1) (-1) none = -1 from rfl), bd_s]
        split <;> rfl
      | some q =>
        have hq := (hx q rfl).1
        rw [if_neg (show ¬ pe (fun q => nI q.1) (-1) (some q) = -1 from nI_nm1 (by omega))]
        split <;> rfl
    · simp only [fX9_more, in_l _ _ _ e0' e1', if_pos a0, bd_s, if_neg i1_0]
      rw [show ((-1 : Int32), (-1 : Int32), (0 : Int32), mLef, mOpn) = (pe (fun q => nI q.1) (-1) none, pe (fun q => nI q.2) (-1) none, nI 0, mLef, mOpn) from rfl, c2, bd_s]
      dsimp only
      split <;> rfl
  · refine ⟨-2, mBad + 1, cRch, mBad + 1, mLef, mOpn, ?_, ?_, rfl, rfl, ⟨n, rt, ln, hL⟩, hT, hA⟩
    · simp only [fX8_more, fX8_refuseBad, upto_e, e1, if_neg a0, bd_s, if_true]
    · simp only [fX9_more, fX9_refuse, in_l _ _ _ e0' e1', if_neg a0, bd_s, if_true]

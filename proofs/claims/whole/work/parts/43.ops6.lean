set_option maxRecDepth 20000 in
theorem op_way {cBad cFul cCnt cOpc cStp cTsz cLsz mVil mBad mFul mLen mSig mWay : Int32} {cRts cLns cOpn cGps cTrl cByt cSgn mRts mLns mOpn mTxt mAns mWys : Nat → Int32} (h : Rel cBad cFul cCnt cOpc cTsz cLsz cRts cLns cOpn cGps cByt cSgn mVil mBad mFul mLen mSig mRts mLns mOpn mTxt mAns) (p0 p1 p2 : Int32) : ∃ (rv : Int32) (zcBad : Int32) (zcStp : Int32) (zcTrl : Nat → Int32) (zmBad : Int32) (zmWay : Int32) (zmWys : Nat → Int32), fX8_way cBad cCnt cStp cRts cTrl p0 p1 p2 = some (rv, zcBad, zcStp, zcTrl) ∧ fX9_way mVil mBad mWay mRts mWys p0 p1 p2 = some (rv, zmBad, zmWay, zmWys) ∧ Rel zcBad cFul cCnt cOpc cTsz cLsz cRts cLns cOpn cGps cByt cSgn mVil zmBad mFul mLen mSig mRts mLns mOpn mTxt mAns := by
  obtain ⟨hB, hU, ⟨n, rt, ln, hL⟩, hT, hA⟩ := h
  subst hB hU
  obtain ⟨h1, h60, hc, hm, hrt, -⟩ := id hL
  subst hc hm
  by_cases a0 : 0 ≤ p0.toInt ∧ p0.toInt < n
  · by_cases a1 : 0 ≤ p1.toInt ∧ p1.toInt < n
    · by_cases a2 : (-1 : Int32) ≤ p2
      · obtain ⟨u, hu, rfl⟩ := exN a0.1 a0.2
        obtain ⟨v, hv, rfl⟩ := exN a1.1 a1.2
        obtain ⟨s, W, W', f1, f2, s1, s60, hag⟩ := way_e h60 (fun v a b => ⟨(hrt v a b).1, (hrt v a b).2.1, (hrt v a b).2.2.1⟩) hu hv cStp mWay cTrl mWys
        by_cases a3 : p2 = -1
        · refine ⟨nI s, mBad, nI s, W, mBad, nI s, W', ?_, ?_, rfl, rfl, ⟨n, rt, ln, hL⟩, hT, hA⟩
          · simp only [fX8_way, has_n h60, if_pos a0, if_pos a1, if_pos a2, bd_s, if_neg i1_0, f1, if_pos a3]
          · simp only [fX9_way, isV_e h1 h60, if_pos a0, if_pos a1, if_pos a2, bd_s, if_neg i1_0, f2, if_pos a3]
        · by_cases a4 : nI s ≤ p2
          · refine ⟨-5, mBad, nI s, W, mBad, nI s, W', ?_, ?_, rfl, rfl, ⟨n, rt, ln, hL⟩, hT, hA⟩
            · simp only [fX8_way, has_n h60, if_pos a0, if_pos a1, if_pos a2, bd_s, if_neg i1_0, f1, if_neg a3, if_pos a4]
            · simp only [fX9_way, isV_e h1 h60, if_pos a0, if_pos a1, if_pos a2, bd_s, if_neg i1_0, f2, if_neg a3, if_pos a4]
          · have a5 : 0 ≤ p2.toInt := by
              have a2' := a2
              rw [le_i] at a2'
              have e1 : (-1 : Int32).toInt = -1 := by decide
              rw [e1] at a2'
              rcases Int.lt_or_eq_of_le a2' with q | q
              · omega
              · exact absurd (Int32.toInt_inj.mp (q.symm.trans e1.symm)) a3
            have a6 := a4
            rw [le_i, nI_toInt (by omega)] at a6
            obtain ⟨k, hk, rfl⟩ := exN (k := s) a5 (by omega)
            obtain ⟨x, hx, x1, x2⟩ := hag k hk
            refine ⟨nI x, mBad, nI s, W, mBad, nI s, W', ?_, ?_, rfl, rfl, ⟨n, rt, ln, hL⟩, hT, hA⟩
            · simp only [fX8_way, has_n h60, if_pos a0, if_pos a1, if_pos a2, bd_s, if_neg i1_0, f1, if_neg a3, if_neg a4, gI_n (show k < 60 by omega) (by decide), if_true, nI_clamp (show k < 2 ^ 31 by omega), x1]
            · simp only [fX9_way, isV_e h1 h60, if_pos a0, if_pos a1, if_pos a2, bd_s, if_neg i1_0, f2, if_neg a3, if_neg a4, gI_n (show k < 60 by omega) (by decide), if_true, nI_clamp (show k < 2 ^ 31 by omega), x2]
      · refine ⟨-10, mBad + 1, cStp, cTrl, mBad + 1, mWay, mWys, ?_, ?_, rfl, rfl, ⟨n, rt, ln, hL⟩, hT, hA⟩
        · simp only [fX8_way, fX8_way_J27, fX8_refuseBadPlace, has_n h60, if_pos a0, if_pos a1, if_neg a2, bd_s, if_neg i1_0]
        · simp only [fX9_way, fX9_way_J21, fX9_refuse, isV_e h1 h60, if_pos a0, if_pos a1, if_neg a2, bd_s, if_neg i1_0]
    · refine ⟨-10, mBad + 1, cStp, cTrl, mBad + 1, mWay, mWys, ?_, ?_, rfl, rfl, ⟨n, rt, ln, hL⟩, hT, hA⟩
      · simp only [fX8_way, fX8_way_J27, fX8_refuseBadPlace, has_n h60, if_pos a0, if_neg a1, bd_s, if_neg i1_0, if_true]
      · simp only [fX9_way, fX9_way_J21, fX9_refuse, isV_e h1 h60, if_pos a0, if_neg a1, bd_s, if_neg i1_0, if_true]
  · refine ⟨-10, mBad + 1, cStp, cTrl, mBad + 1, mWay, mWys, ?_, ?_, rfl, rfl, ⟨n, rt, ln, hL⟩, hT, hA⟩
    · simp only [fX8_way, fX8_way_J27, fX8_refuseBadPlace, has_n h60, if_neg a0, bd_s, if_true]
    · simp only [fX9_way, fX9_way_J21, fX9_refuse, isV_e h1 h60, if_neg a0, bd_s, if_true]
def FM (n : Nat) (d : Nat → Nat → Nat) (u : Nat) : Nat := itr (mx (d u)) 0 n 0
theorem mx_ge (m : Nat → Nat) : ∀ k i s, s ≤ itr (mx m) i k s := by
  intro k
  induction k with
  | zero => intro i s; exact Nat.le_refl _
  | succ k ih =>
    intro i s
    rw [itr]
    have := ih (i + 1) (mx m i s)
    have h : s ≤ mx m i s := by unfold mx; split <;> omega
    omega
theorem mx_all (m : Nat → Nat) : ∀ k i s j, i ≤ j → j < i + k → m j ≤ itr (mx m) i k s := by
  intro k
  induction k with
  | zero => intro i s j h1 h2; omega
  | succ k ih =>
    intro i s j h1 h2
    rw [itr]
    by_cases q : j = i
    · subst q
      have := mx_ge m k (j + 1) (mx m j s)
      have h : m j ≤ mx m j s := by unfold mx; split <;> omega
      omega
    · exact ih (i + 1) _ j (by omega) (by omega)
theorem farC_e {n : Nat} {d : Nat → Nat → Nat} {g R Ls : Nat → Int32} (E : EnvD n d g R Ls) {u : Nat} (hu : u < n) : fX6_farthest (nI n) g (nI u) = some (nI (FM n d u)) := by
  obtain ⟨n1, h60, eg, ef, sy, le⟩ := E
  have c1 := lp_for (F := fX6_farthest_L4 (nI n) g (nI u)) (fun i s => (nI s, nI i)) (mx (d u)) (fun _ s => s ≤ 11682) n (fun s => some (nI s, nI n)) (fun k s _ => by
      dsimp only [fX6_farthest_L4]
      rw [if_pos (Int32.le_refl _)]) (fun k i s hi hs => by
      have hd := le u i hu hi
      refine ⟨?_, by unfold mx; split <;> omega⟩
      dsimp only [fX6_farthest_L4]
      unfold mx
      rw [if_neg (nI_ge hi (by omega)), eg u i hu hi, bd_s, nI_1]
      by_cases q : s < d u i
      · rw [if_pos (nI_lt q (by omega)), if_pos q]
      · rw [if_neg (nI_nlt (by omega) (by omega)), if_neg q]) n FU 0 0 (by omega) (FU_lt (by omega)) (by omega)
  unfold fX6_farthest
  rw [show ((0 : Int32), (0 : Int32)) = (nI 0, nI 0) from rfl, c1.1]
  rfl
theorem farM_e {n : Nat} {d : Nat → Nat → Nat} {g R Ls : Nat → Int32} (E : EnvD n d g R Ls) {u : Nat} (hu : u < n) : fX9_farthest (nI n) R Ls (nI u) = some (nI (FM n d u)) := by
  obtain ⟨n1, h60, eg, ef, sy, le⟩ := E
  have c1 := lp_for (F := fX9_farthest_L4 (nI n) R Ls (nI u)) (fun i s => (nI s, nI i)) (mx (d u)) (fun _ s => s ≤ 11682) n (fun s => some (nI s, nI n)) (fun k s _ => by
      dsimp only [fX9_farthest_L4]
      rw [if_pos (Int32.le_refl _)]) (fun k i s hi hs => by
      have hd := le u i hu hi
      refine ⟨?_, by unfold mx; split <;> omega⟩
      dsimp only [fX9_farthest_L4, fX9_farthest_J32]
      unfold mx
      rw [if_neg (nI_ge hi (by omega)), ef u i hu hi, bd_s, nI_1]
      by_cases q : s < d u i
      · rw [if_neg (nI_ge q (by omega)), if_pos q]
      · rw [if_pos (nI_le (by omega) (by omega)), if_neg q]) n FU 0 0 (by omega) (FU_lt (by omega)) (by omega)
  unfold fX9_farthest
  rw [show ((0 : Int32), (0 : Int32)) = (nI 0, nI 0) from rfl, c1.1]
  rfl
theorem FM_le {n : Nat} {d : Nat → Nat → Nat} {g R Ls : Nat → Int32} (E : EnvD n d g R Ls) {u : Nat} (hu : u < n) : FM n d u ≤ 11682 := mx_le _ 11682 n (fun i hi => E.2.2.2.2.2 u i hu hi) n 0 0 (by omega) (by omega)
def sp (d : Nat → Nat → Nat) (u v : Nat) (s : Nat × Nat × Nat) : Nat × Nat × Nat := if d u v ≤ s.1 then s else (d u v, u, v)
/-- what an inner round does -/
def spI (d : Nat → Nat → Nat) (u : Nat) (s : Nat × Nat × Nat) (j : Nat) (t : Nat × Nat × Nat) : Prop := (t = s ∧ ∀ v, v < j → d u v ≤ s.1) ∨ (t.2.1 = u ∧ s.1 < t.1 ∧ t.2.2 < j ∧ d u t.2.2 = t.1 ∧ (∀ v, v < j → d u v ≤ t.1) ∧ ∀ v, v < t.2.2 → d u v < t.1)
theorem spI_step {d : Nat → Nat → Nat} {u j : Nat} {s t : Nat × Nat × Nat} (h : spI d u s j t) : spI d u s (j + 1) (sp d u j t) := by
  unfold sp
  rcases h with ⟨rfl, h2⟩ | ⟨h1, h2, h3, h4, h5, h6⟩
  · by_cases q : d u j ≤ t.1
    · rw [if_pos q]
      refine Or.inl ⟨rfl, fun v hv => ?_⟩
      by_cases e : v = j
      · rw [e]; exact q
      · exact h2 v (by omega)
    · rw [if_neg q]
      refine Or.inr ⟨rfl, by show t.1 < d u j; omega, by show j < j + 1; omega, rfl, fun v hv => ?_, fun v hv => ?_⟩
      · show d u v ≤ d u j
        by_cases e : v = j
        · rw [e]; exact Nat.le_refl _
        · have := h2 v (by omega); omega
      · show d u v < d u j
        have := h2 v hv; omega
  · by_cases q : d u j ≤ t.1
    · rw [if_pos q]
      refine Or.inr ⟨h1, h2, by omega, h4, fun v hv => ?_, h6⟩
      by_cases e : v = j
      · rw [e]; exact q
      · exact h5 v (by omega)
    · rw [if_neg q]
      refine Or.inr ⟨rfl, by show s.1 < d u j; omega, by show j < j + 1; omega, rfl, fun v hv => ?_, fun v hv => ?_⟩
      · show d u v ≤ d u j
        by_cases e : v = j
        · rw [e]; exact Nat.le_refl _
        · have := h5 v (by omega); omega
      · show d u v < d u j
        have := h5 v hv; omega
/-- the end that was found: the least other end -/
def lgO (n : Nat) (d : Nat → Nat → Nat) (s : Nat × Nat × Nat) : Prop := s.1 ≤ 11682 ∧ s.2.1 < n ∧ s.2.2 < n ∧ d s.2.1 s.2.2 = s.1 ∧ ∀ v, v < s.2.2 → d s.2.1 v ≠ s.1
set_option maxRecDepth 20000 in
theorem op_longest {cBad cFul cCnt cOpc cTsz cLsz mVil mBad mFul mLen mSig : Int32} {cRts cLns cOpn cGps cByt cSgn mRts mLns mOpn mTxt mAns : Nat → Int32} (h : Rel cBad cFul cCnt cOpc cTsz cLsz cRts cLns cOpn cGps cByt cSgn mVil mBad mFul mLen mSig mRts mLns mOpn mTxt mAns) (p0 : Int32) : ∃ (rv : Int32) (zcBad : Int32) (zmBad : Int32), fX8_longest cBad cCnt cGps p0 = some (rv, zcBad) ∧ fX9_longest mVil mBad mRts mLns p0 = some (rv, zmBad) ∧ Rel zcBad cFul cCnt cOpc cTsz cLsz cRts cLns cOpn cGps cByt cSgn mVil zmBad mFul mLen mSig mRts mLns mOpn mTxt mAns := by
  obtain ⟨hB, hU, ⟨n, rt, ln, hL⟩, hT, hA⟩ := h
  subst hB hU
  obtain ⟨h1, h60, hc, hm, hrt, -⟩ := id hL
  subst hc hm
  have E := hL.env
  have E' := hL.env
  obtain ⟨-, -, eg, ef, sy, le⟩ := E'
  have e2 : (2 : Int32).toInt = 2 := by decide
  have e2' : (2 : Int64).toInt = 2 := by decide
  have e0' : (0 : Int64).toInt = 0 := by decide
  by_cases a0 : 0 ≤ p0.toInt ∧ p0.toInt ≤ 2
  · -- the class, and beside it the reference's first loop
    have c1 := lp_rel (F := fX6_span_L10 (nI n) cGps) (fun i (s : Nat × Nat × Nat) => (nI s.1, nI s.2.1, nI s.2.2, nI i)) (fun i s => lgO n (dist rt ln) s ∧ ∃ fu, fu + i = FU ∧ lp (fX9_longest_L24 (nI n) mRts mLns) fu (nI s.1, nI s.2.1, nI i) = lp (fX9_longest_L24 (nI n) mRts mLns) FU (nI 0, nI 0, nI 0)) n (fun s => some (nI s.1, nI s.2.1, nI s.2.2, nI n)) (fun k s _ => by
        dsimp only [fX6_span_L10]
        rw [if_pos (Int32.le_refl _)]) (fun k i s hi hs => by
        obtain ⟨⟨o1, o2, o3, o4, o5⟩, fu, z1, z2⟩ := hs
        have ci := lp_for (F := fX6_span_L25 (nI n) cGps (nI i)) (fun j (t : Nat × Nat × Nat) => (nI t.1, nI t.2.1, nI t.2.2, nI j)) (sp (dist rt ln) i) (fun j t => t.1 ≤ 11682 ∧ spI (dist rt ln) i s j t) n (fun t => some (nI t.1, nI t.2.1, nI t.2.2, nI n)) (fun k t _ => by
            dsimp only [fX6_span_L25]
            rw [if_pos (Int32.le_refl _)]) (fun k j t hj ht => by
            have hd := le i j hi hj
            refine ⟨?_, ?_, spI_step ht.2⟩
            · dsimp only [fX6_span_L25, fX6_span_J71]
              unfold sp
              rw [if_neg (nI_ge hj (by omega)), eg i j hi hj, bd_s, nI_1]
              have h1 := ht.1
              by_cases q : dist rt ln i j ≤ t.1
              · rw [if_pos (nI_le q (by omega)), if_pos q]
              · rw [if_neg (nI_ge (by omega) (by omega)), if_neg q, bd_s]
            · unfold sp
              have := ht.1
              split
              · omega
              · exact hd) n FU 0 s (by omega) (FU_lt (by omega)) ⟨o1, Or.inl ⟨rfl, fun v hv => absurd hv (by omega)⟩⟩
        obtain ⟨ci1, ci2, ci3⟩ := ci
        generalize itr (sp (dist rt ln) i) 0 n s = t at ci1 ci2 ci3
        have hF := FM_le E hi
        have hbody : ∀ k', fX9_longest_L24 (nI n) mRts mLns k' (nI s.1, nI s.2.1, nI i) = k' (nI t.1, nI t.2.1, nI (i + 1)) := by
          intro k'
          dsimp only [fX9_longest_L24, fX9_longest_J53, fX9_longest_J66]
          rw [if_neg (nI_ge hi (by omega)), farM_e E hi, bd_s, nI_1]
          rcases ci3 with ⟨rfl, g2⟩ | ⟨g1, g2, g3, g4, g5, g6⟩
          · have : FM n (dist rt ln) i ≤ t.1 := mx_le _ t.1 n g2 n 0 0 (by omega) (by omega)
            rw [if_pos (nI_le this (by omega)), if_pos (nI_le this (by omega))]
          · have hm1 : FM n (dist rt ln) i ≤ t.1 := mx_le _ t.1 n g5 n 0 0 (by omega) (by omega)
            have hm2 : dist rt ln i t.2.2 ≤ FM n (dist rt ln) i := mx_all _ n 0 0 t.2.2 (by omega) (by omega)
            have hm3 : FM n (dist rt ln) i = t.1 := by omega
            rw [hm3, if_neg (nI_ge g2 (by omega)), if_neg (nI_ge g2 (by omega)), g1]
        refine ⟨t, ?_, ⟨ci2, ?_⟩, fu - 1, ?_, ?_⟩
        · dsimp only [fX6_span_L10]
          rw [if_neg (nI_ge hi (by omega)), show (0 : Int32) = nI 0 from rfl, ci1, bd_s, nI_1]
        · rcases ci3 with ⟨rfl, g2⟩ | ⟨g1, g2, g3, g4, g5, g6⟩
          · exact ⟨o2, o3, o4, o5⟩
          · exact ⟨by rw [g1]; exact hi, g3, by rw [g1]; exact g4, fun v hv => by rw [g1]; have := g6 v hv; omega⟩
        · have := FU_lt (n := 900) (Nat.le_refl _); omega
        · rw [← z2]
          have hfu : fu = (fu - 1) + 1 := by have := FU_lt (n := 900) (Nat.le_refl _); omega
          conv => rhs; rw [hfu]
          exact (hbody (lp _ (fu - 1))).symm) n FU 0 (0, 0, 0) (by omega) (FU_lt (by omega)) ⟨⟨by decide, h1, h1, dist_0 0, fun v hv => absurd hv (Nat.not_lt_zero v)⟩, FU, rfl, rfl⟩
    obtain ⟨t, k1, ⟨o1, o2, o3, o4, o5⟩, fu, z1, z2⟩ := c1
    have m1 : lp (fX9_longest_L24 (nI n) mRts mLns) FU (nI 0, nI 0, nI 0) = some (nI t.1, nI t.2.1, nI n) := by
      rw [← z2]
      have hfu : fu = (fu - 1) + 1 := by have := FU_lt (n := 900) (Nat.le_refl _); omega
      rw [hfu]
      show fX9_longest_L24 (nI n) mRts mLns (lp _ (fu - 1)) (nI t.1, nI t.2.1, nI n) = _
      dsimp only [fX9_longest_L24]
      rw [if_pos (Int32.le_refl _)]
    have m2 : ∀ (m f i : Nat), i + m = t.2.2 → m < f → lp (fX9_longest_L76 mRts mLns (nI t.1) (nI t.2.1)) f (nI i) = some (nI t.2.2) := by
      intro m
      induction m with
      | zero =>
        intro f i hi hf
        cases f with
        | zero => omega
        | succ f =>
          show fX9_longest_L76 mRts mLns (nI t.1) (nI t.2.1) (lp _ f) (nI i) = _
          dsimp only [fX9_longest_L76]
          obtain rfl : i = t.2.2 := by omega
          rw [ef t.2.1 t.2.2 o2 o3, bd_s, o4, if_pos rfl]
      | succ m ih =>
        intro f i hi hf
        cases f with
        | zero => omega
        | succ f =>
          show fX9_longest_L76 mRts mLns (nI t.1) (nI t.2.1) (lp _ f) (nI i) = _
          dsimp only [fX9_longest_L76]
          have hd := le t.2.1 i o2 (by omega)
          rw [ef t.2.1 i o2 (by omega), bd_s, if_neg (by rw [nI_eq (by omega) (by omega)]; exact o5 i (by omega)), nI_1]
          exact ih f (i + 1) (by omega) (by omega)
    have m3 := m2 t.2.2 FU 0 (by omega) (FU_lt (by omega))
    refine ⟨if p0 = 0 then nI t.1 else if p0 = 1 then nI t.2.1 else nI t.2.2, mBad, mBad, ?_, ?_, rfl, rfl, ⟨n, rt, ln, hL⟩, hT, hA⟩
    · simp only [fX8_longest, fX6_span, upto_e, e2, if_pos a0, bd_s, if_neg i1_0]
      rw [show ((0 : Int32), (0 : Int32), (0 : Int32), (0 : Int32)) = (nI 0, nI 0, nI 0, nI 0) from rfl, show lp (fX6_span_L10 (nI n) cGps) FU (nI 0, nI 0, nI 0, nI 0) = _ from k1, bd_s]
      dsimp only
      split
      · rfl
      · split <;> rfl
    · simp only [fX9_longest, in_l _ _ _ e0' e2', if_pos a0, bd_s, if_neg i1_0]
      rw [show ((0 : Int32), (0 : Int32), (0 : Int32)) = (nI 0, nI 0, nI 0) from rfl, m1, bd_s]
      dsimp only
      rw [show (0 : Int32) = nI 0 from rfl, m3, bd_s]
      split
      · rfl
      · split <;> rfl
  · refine ⟨-2, mBad + 1, mBad + 1, ?_, ?_, rfl, rfl, ⟨n, rt, ln, hL⟩, hT, hA⟩
    · simp only [fX8_longest, fX8_refuseBad, upto_e, e2, if_neg a0, bd_s, if_true]
    · simp only [fX9_longest, fX9_refuse, in_l _ _ _ e0' e2', if_neg a0, bd_s, if_true]

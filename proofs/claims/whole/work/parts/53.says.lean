/-! All sentences: read, then done. -/
theorem Vd_lt {w a b th : Nat} (h : Vd w a b th) : w < 10 ∧ (w = 0 → th < 60) := by
  unfold Vd at h
  omega
theorem nx_b {w a b th : Nat} (h : Vd w a b th) (h1 : 1 ≤ th) (h60 : th ≤ 60) : 1 ≤ nx w th ∧ nx w th ≤ 60 := by
  have := (Vd_lt h).2
  unfold nx
  split
  · omega
  · omega
/-- sentences, one behind the other -/
def Chain (t : Nat) (X : Nat → Nat) (M : Nat → Int32) : List (Nat × Nat × Nat) → Nat → Nat → Prop
  | [], q, _ => q = t
  | s :: L, q, th => Vd s.1 s.2.1 s.2.2 th ∧ ∃ p' q', SenM t X M q th s.1 s.2.1 s.2.2 p' ∧ Sk t X p' q' ∧ Chain t X M L q' (nx s.1 th)
section SAYS
variable {t : Nat} {X : Nat → Nat} {B M : Nat → Int32}
/-- the first passes: the class keeps the sentences, the reference counts them -/
theorem read_e (hX : TX t X B M) (mVil mSig mWay : Int32) (mRts mLns mOpn mAns mWys : Nat → Int32) : ∀ (m i f p q th : Nat) (W F S : Nat → Int32), i + m = 30 → m < f → Sk t X p q → (i = 0 ∨ p = q) → 4 * i ≤ q → 1 ≤ th → th ≤ 60 →
    (∃ fl, fl ≤ t ∧ (∃ v rc pl vi W' F' S', lp (fX3_read_L22 (nI t) B) f (nI i, nI i, nI p, -1, nI th, W, F, S) = some (v, rc, pl, nI fl, vi, W', F', S')) ∧ ∀ p2, Sk t X p2 q → ∀ j1 j2 j3 j4 N, ∃ s1 s2 s3 s4 s5 s6 N', lp (fX9_says_L15 mVil (nI t) mSig mWay mRts mLns mOpn M mAns mWys) f (nI i, nI p2, j1, j2, j3, j4, nI th, N) = some (-10 - nI fl, mVil, mSig, mWay, s1, s2, s3, s4, s5, s6, mRts, mLns, mOpn, mAns, mWys, N')) ∨
    (∃ L : List (Nat × Nat × Nat), Chain t X M L q th ∧ i + L.length ≤ 30 ∧ 1 ≤ i + L.length ∧ (∃ v pl vi W' F' S', lp (fX3_read_L22 (nI t) B) f (nI i, nI i, nI p, -1, nI th, W, F, S) = some (v, nI (i + L.length), pl, -1, vi, W', F', S') ∧ (∀ j, j < i → W' j = W j ∧ F' j = F j ∧ S' j = S j) ∧ ∀ j, j < L.length → W' (i + j) = nI (L.getD j (0, 0, 0)).1 ∧ F' (i + j) = nI (L.getD j (0, 0, 0)).2.1 ∧ S' (i + j) = nI (L.getD j (0, 0, 0)).2.2) ∧
      ∀ p2, Sk t X p2 q → ∀ j1 j2 j3 j4 N, ∃ K p3 s1 s2 s3 s4 s5 N', Sk t X p3 t ∧ lp (fX9_says_L15 mVil (nI t) mSig mWay mRts mLns mOpn M mAns mWys) f (nI i, nI p2, j1, j2, j3, j4, nI th, N) = fX9_says_L15 mVil (nI t) mSig mWay mRts mLns mOpn M mAns mWys K (nI (i + L.length), nI p3, s1, s2, s3, s4, s5, N')) := by
  have ht := hX.1
  intro m
  induction m with
  | zero =>
    intro i f p q th W F S hi hf hS hpq h4 h1 h60
    obtain ⟨f, rfl⟩ : ∃ g, f = g + 1 := ⟨f - 1, by omega⟩
    have hqt := hS.2.1
    have e : q = t := by omega
    obtain rfl : i = 30 := by omega
    refine Or.inr ⟨[], e, Nat.le_refl _, by show 1 ≤ 30; omega, ⟨nI 30, nI p, nI th, W, F, S, ?_, fun j _ => ⟨rfl, rfl, rfl⟩, fun j hj => absurd hj (Nat.not_lt_zero j)⟩, fun p2 h2 j1 j2 j3 j4 N => ⟨lp (fX9_says_L15 mVil (nI t) mSig mWay mRts mLns mOpn M mAns mWys) f, p2, j1, j2, j3, j4, nI th, N, by rw [e] at h2; exact h2, rfl⟩⟩
    show fX3_read_L22 (nI t) B (lp _ f) (nI 30, nI 30, nI p, -1, nI th, W, F, S) = _
    dsimp only [fX3_read_L22]
    rw [if_pos (show (30 : Int32) ≤ nI 30 from by decide)]
    all_goals rfl
  | succ m ih =>
    intro i f p q th W F S hi hf hS hpq h4 h1 h60
    obtain ⟨f, rfl⟩ : ∃ g, f = g + 1 := ⟨f - 1, by omega⟩
    have hqt := hS.2.1
    have n30 : ¬ (30 : Int32) ≤ nI i := nI_ge (b := 30) (by omega) (by decide)
    by_cases stop : i ≠ 0 ∧ q = t
    · obtain ⟨i0, e⟩ := stop
      obtain rfl : p = q := hpq.resolve_left i0
      subst e
      refine Or.inr ⟨[], rfl, by show i + 0 ≤ 30; omega, by show 1 ≤ i + 0; omega, ⟨nI i, nI p, nI th, W, F, S, ?_, fun j _ => ⟨rfl, rfl, rfl⟩, fun j hj => absurd hj (Nat.not_lt_zero j)⟩, fun p2 h2 j1 j2 j3 j4 N => ⟨lp (fX9_says_L15 mVil (nI p) mSig mWay mRts mLns mOpn M mAns mWys) f, p2, j1, j2, j3, j4, nI th, N, h2, rfl⟩⟩
      show fX3_read_L22 (nI p) B (lp _ f) (nI i, nI i, nI p, -1, nI th, W, F, S) = _
      dsimp only [fX3_read_L22]
      rw [if_neg n30, if_pos rfl, if_neg (nI_ne0 (by omega) (by omega)), if_pos (Int32.le_refl _)]
      all_goals rfl
    · -- a sentence is read
      have e0 : lp (fX3_read_L22 (nI t) B) (f + 1) (nI i, nI i, nI p, -1, nI th, W, F, S) = fX3_read_J54 (nI t) B (nI i) (nI i) (nI p) (-1) (nI th) W F S (lp (fX3_read_L22 (nI t) B) f) := by
        show fX3_read_L22 (nI t) B (lp _ f) (nI i, nI i, nI p, -1, nI th, W, F, S) = _
        dsimp only [fX3_read_L22]
        rw [if_neg n30, if_pos rfl]
        by_cases i0 : i = 0
        · rw [if_pos (by rw [i0]; rfl)]
        · have e : p = q := hpq.resolve_left i0
          have hlt : p < t := by
            rcases Nat.lt_or_ge p t with z | z
            · exact z
            · exact absurd ⟨i0, by omega⟩ stop
          rw [if_neg (nI_ne0 (by omega) (by omega)), if_neg (nI_ge hlt (by omega))]
      have m0 : ∀ p2, Sk t X p2 q → ∀ j1 j2 j3 j4 N, lp (fX9_says_L15 mVil (nI t) mSig mWay mRts mLns mOpn M mAns mWys) (f + 1) (nI i, nI p2, j1, j2, j3, j4, nI th, N) = fX9_says_J26 mVil (nI t) mSig mWay mRts mLns mOpn M mAns mWys (nI i) (nI p2) j1 j2 j3 j4 (nI th) N (lp (fX9_says_L15 mVil (nI t) mSig mWay mRts mLns mOpn M mAns mWys) f) := by
        intro p2 h2 j1 j2 j3 j4 N
        show fX9_says_L15 mVil (nI t) mSig mWay mRts mLns mOpn M mAns mWys (lp _ f) (nI i, nI p2, j1, j2, j3, j4, nI th, N) = _
        dsimp only [fX9_says_L15]
        by_cases i0 : i = 0
        · rw [if_pos (by rw [i0]; rfl)]
        · rw [if_neg (nI_ne0 (by omega) (by omega)), skipI hX h2, bd_s, if_neg (fun e => stop ⟨i0, e⟩), if_neg i1_0]
      rcases sent_e hX hqt h1 h60 with ⟨fl, hfl, c1, c2⟩ | ⟨w, a, b, p', hV, hp4, hpt, c1, c2⟩
      · refine Or.inl ⟨fl, hfl, ?_, fun p2 h2 j1 j2 j3 j4 N => ?_⟩
        · obtain ⟨p', hp', r1⟩ := c1 p hS (nI i) W F S
          obtain ⟨q', hq'⟩ := run_at (t := t) (P := fun i => X i = 32) (p := p') hp'
          obtain ⟨f, rfl⟩ : ∃ g, f = g + 1 := ⟨f - 1, by omega⟩
          refine ⟨nI i + 1, nI i, nI q', nI th, W, F, S, ?_⟩
          rw [e0]
          unfold fX3_read_J54
          rw [r1, bd_s]
          dsimp only
          rw [skipC hX hq', bd_s]
          show fX3_read_L22 (nI t) B (lp _ f) (nI i + 1, nI i, nI q', nI fl, nI th, W, F, S) = _
          dsimp only [fX3_read_L22]
          rw [if_neg (nI_nm1 (show fl < 2 ^ 31 by omega))]
          split <;> rfl
        · obtain ⟨s, k, v, o, g, N', r1⟩ := c2 p2 h2 j1 j2 j3 j4 N
          refine ⟨s, nI fl, k, v, o, g, N', ?_⟩
          rw [m0 p2 h2]
          unfold fX9_says_J26
          rw [r1, bd_s]
          dsimp only
          rw [if_pos rfl]
      · obtain ⟨q', hq'⟩ := run_at (t := t) (P := fun i => X i = 32) (p := p') hpt
        have hpq' := hq'.1
        obtain ⟨b1, b60⟩ := nx_b hV h1 h60
        have e1 : lp (fX3_read_L22 (nI t) B) (f + 1) (nI i, nI i, nI p, -1, nI th, W, F, S) = lp (fX3_read_L22 (nI t) B) f (nI (i + 1), nI (i + 1), nI q', -1, nI (nx w th), upd W i (nI w), upd F i (nI a), upd S i (nI b)) := by
          rw [e0]
          unfold fX3_read_J54
          rw [c1 p hS i W F S (by omega), bd_s]
          dsimp only
          rw [skipC hX hq', bd_s, nI_1]
        have m1 : ∀ p2, Sk t X p2 q → ∀ j1 j2 j3 j4 N, ∃ s1 s2 s3 s4 N', lp (fX9_says_L15 mVil (nI t) mSig mWay mRts mLns mOpn M mAns mWys) (f + 1) (nI i, nI p2, j1, j2, j3, j4, nI th, N) = lp (fX9_says_L15 mVil (nI t) mSig mWay mRts mLns mOpn M mAns mWys) f (nI (i + 1), nI p', s1, s2, s3, s4, nI (nx w th), N') := by
          intro p2 h2 j1 j2 j3 j4 N
          obtain ⟨s1, s2, s3, N', r1, -, -⟩ := c2 p2 h2 j1 j2 j3 j4 N
          refine ⟨s1, s2, s3, nI (wcd w), N', ?_⟩
          rw [m0 p2 h2]
          unfold fX9_says_J26
          rw [r1, bd_s]
          dsimp only
          rw [if_neg i1_0, nI_1]
        rcases ih (i + 1) f q' q' (nx w th) (upd W i (nI w)) (upd F i (nI a)) (upd S i (nI b)) (by omega) (by omega) hq'.self (Or.inr rfl) (by omega) b1 b60 with ⟨fl, hfl, k1, k2⟩ | ⟨L, hch, l30, l1, ⟨v, pl, vi, W', F', S', k1, k2, k3⟩, k4⟩
        · refine Or.inl ⟨fl, hfl, ?_, fun p2 h2 j1 j2 j3 j4 N => ?_⟩
          · rw [e1]; exact k1
          · obtain ⟨s1, s2, s3, s4, N', r1⟩ := m1 p2 h2 j1 j2 j3 j4 N
            rw [r1]
            exact k2 p' hq' _ _ _ _ _
        · have hlen : i + ((w, a, b) :: L).length = i + 1 + L.length := by rw [List.length_cons]; omega
          refine Or.inr ⟨(w, a, b) :: L, ⟨hV, p', q', c2, hq', hch⟩, by omega, by omega, ⟨v, pl, vi, W', F', S', ?_, fun j hj => ?_, fun j hj => ?_⟩, fun p2 h2 j1 j2 j3 j4 N => ?_⟩
          · rw [e1, k1, hlen]
          · obtain ⟨y1, y2, y3⟩ := k2 j (by omega)
            rw [y1, y2, y3, upd_n (by omega), upd_n (by omega), upd_n (by omega)]
            exact ⟨rfl, rfl, rfl⟩
          · cases j with
            | zero =>
              obtain ⟨y1, y2, y3⟩ := k2 i (by omega)
              rw [Nat.add_zero, y1, y2, y3, upd_s, upd_s, upd_s]
              exact ⟨rfl, rfl, rfl⟩
            | succ j =>
              rw [List.length_cons] at hj
              have y := k3 j (by omega)
              rw [show i + 1 + j = i + (j + 1) by omega] at y
              exact y
          · obtain ⟨s1, s2, s3, s4, N', r1⟩ := m1 p2 h2 j1 j2 j3 j4 N
            obtain ⟨K, p3, z1, z2, z3, z4, z5, N2, hp3, r2⟩ := k4 p' hq' s1 s2 s3 s4 N'
            refine ⟨K, p3, z1, z2, z3, z4, z5, N2, hp3, ?_⟩
            rw [r1, r2, hlen]
/-- the second passes: the sentences are done -/
theorem done_e (n : Nat) (hn : n ≤ 30) (W F S : Nat → Int32) : ∀ (L : List (Nat × Nat × Nat)) (f i p q th : Nat) (rt ln : Nat → Nat) (cOpc cStp cLsz mSig mWay j1 j2 j3 j4 : Int32) (cRts cLns cOpn cGps cTrl cSgn mRts mLns mOpn mAns mWys N : Nat → Int32), i + L.length = n → L.length < f → Chain t X M L q th → Sk t X p q → (∀ j, j < L.length → W (i + j) = nI (L.getD j (0, 0, 0)).1 ∧ F (i + j) = nI (L.getD j (0, 0, 0)).2.1 ∧ S (i + j) = nI (L.getD j (0, 0, 0)).2.2) → LandR th rt ln (nI th) cOpc cRts cLns cOpn cGps (nI th) mRts mLns mOpn → LR cLsz cSgn mSig mAns →
    ∃ (zc zo zs zl : Int32) (zR zN zP zG zT zA : Nat → Int32) (yS yW s1 s2 s3 s4 s5 s6 : Int32) (yR yN yP yA yY N' : Nat → Int32), lp (fX8_says_L34 (nI n) W F S) f (nI i, nI th, cOpc, cStp, cLsz, cRts, cLns, cOpn, cGps, cTrl, cSgn) = some (nI n, zc, zo, zs, zl, zR, zN, zP, zG, zT, zA) ∧ lp (fX9_says_L67 (nI t) M (nI n)) f (nI i, nI th, mSig, mWay, nI p, j1, j2, j3, j4, nI th, mRts, mLns, mOpn, mAns, mWys, N) = some (nI n, zc, yS, yW, s1, s2, s3, s4, s5, s6, yR, yN, yP, yA, yY, N') ∧ (∃ (k : Nat) (rt' ln' : Nat → Nat), LandR k rt' ln' zc zo zR zN zP zG zc yR yN yP) ∧ LR zl zA yS yA := by
  intro L
  induction L with
  | nil =>
    intro f i p q th rt ln cOpc cStp cLsz mSig mWay j1 j2 j3 j4 cRts cLns cOpn cGps cTrl cSgn mRts mLns mOpn mAns mWys N hi hf hc hS hv hL hA
    obtain rfl : i = n := hi
    obtain ⟨f, rfl⟩ : ∃ g, f = g + 1 := ⟨f - 1, by have : 0 < f := hf; omega⟩
    refine ⟨nI th, cOpc, cStp, cLsz, cRts, cLns, cOpn, cGps, cTrl, cSgn, mSig, mWay, nI p, j1, j2, j3, j4, nI th, mRts, mLns, mOpn, mAns, mWys, N, ?_, ?_, ⟨th, rt, ln, hL⟩, hA⟩
    · show fX8_says_L34 (nI i) W F S (lp _ f) (nI i, nI th, cOpc, cStp, cLsz, cRts, cLns, cOpn, cGps, cTrl, cSgn) = _
      dsimp only [fX8_says_L34]
      rw [if_pos (Int32.le_refl _)]
    · show fX9_says_L67 (nI t) M (nI i) (lp _ f) (nI i, nI th, mSig, mWay, nI p, j1, j2, j3, j4, nI th, mRts, mLns, mOpn, mAns, mWys, N) = _
      dsimp only [fX9_says_L67]
      rw [if_pos (Int32.le_refl _)]
  | cons s L ih =>
    intro f i p q th rt ln cOpc cStp cLsz mSig mWay j1 j2 j3 j4 cRts cLns cOpn cGps cTrl cSgn mRts mLns mOpn mAns mWys N hi hf hc hS hv hL hA
    obtain ⟨w, a, b⟩ := s
    obtain ⟨hV, p', q', hsm, hS', hc'⟩ := hc
    dsimp only at hV hsm hc'
    rw [List.length_cons] at hi hf hv
    obtain ⟨f, rfl⟩ : ∃ g, f = g + 1 := ⟨f - 1, by omega⟩
    obtain ⟨v1, v2, v3⟩ := hv 0 (by omega)
    rw [Nat.add_zero] at v1 v2 v3
    have v1' : W i = nI w := v1
    have v2' : F i = nI a := v2
    have v3' : S i = nI b := v3
    obtain ⟨s1, s2, s3, N', r1, n0, n1⟩ := hsm p hS j1 j2 j3 j4 N
    have nk : ¬ nI n ≤ nI i := nI_ge (by omega) (by omega)
    have g30 := gI_n (i := i) (n := 30) (by omega) (by decide)
    have cl := nI_clamp (n := i) (by omega)
    have hv' : ∀ j, j < L.length → W (i + 1 + j) = nI (L.getD j (0, 0, 0)).1 ∧ F (i + 1 + j) = nI (L.getD j (0, 0, 0)).2.1 ∧ S (i + 1 + j) = nI (L.getD j (0, 0, 0)).2.2 := fun j hj => by
      have y := hv (j + 1) (by omega)
      rw [show i + (j + 1) = i + 1 + j by omega] at y
      exact y
    by_cases i0 : i = 0
    · have q0 : nI i ≤ (0 : Int32) := by rw [i0]; decide
      obtain ⟨xO, xS, xL, xR, xN, xP, xG, xT, xA, yS, yW, yR, yN, yP, yA, yY, rt', ln', t1, t2, hL2, hA2⟩ := tell_e hL hA cStp mWay cTrl mWys hV N' n0 n1
      obtain ⟨zc, zo, zs, zl, zR, zN, zP, zG, zT, zA, uS, uW, o1, o2, o3, o4, o5, o6, uR, uN, uP, uA, uY, N2, k1, k2, k3, k4⟩ := ih f (i + 1) p' q' (nx w th) rt' ln' xO xS xL yS yW s1 s2 s3 (nI (wcd w)) xR xN xP xG xT xA yR yN yP yA yY N' (by omega) (by omega) hc' hS' hv' hL2 hA2
      refine ⟨zc, zo, zs, zl, zR, zN, zP, zG, zT, zA, uS, uW, o1, o2, o3, o4, o5, o6, uR, uN, uP, uA, uY, N2, ?_, ?_, k3, k4⟩
      · show fX8_says_L34 (nI n) W F S (lp _ f) (nI i, nI th, cOpc, cStp, cLsz, cRts, cLns, cOpn, cGps, cTrl, cSgn) = _
        dsimp only [fX8_says_L34, fX8_says_J58]
        rw [if_neg nk, if_pos q0, if_pos g30, if_pos g30, if_pos g30, cl, v1', v2', v3', t1, bd_s]
        dsimp only
        rw [nI_1]
        exact k1
      · show fX9_says_L67 (nI t) M (nI n) (lp _ f) (nI i, nI th, mSig, mWay, nI p, j1, j2, j3, j4, nI th, mRts, mLns, mOpn, mAns, mWys, N) = _
        dsimp only [fX9_says_L67, fX9_says_J87]
        rw [if_neg nk, r1, bd_s]
        dsimp only
        rw [if_pos q0, t2, bd_s]
        dsimp only
        rw [nI_1]
        exact k2
    · have q0 : ¬ nI i ≤ (0 : Int32) := nI_nle (by omega) (by omega)
      obtain ⟨c0, g0, y0, a0, u1, u2, h0⟩ := put_e hA (x := 32) (by decide)
      obtain ⟨xO, xS, xL, xR, xN, xP, xG, xT, xA, yS, yW, yR, yN, yP, yA, yY, rt', ln', t1, t2, hL2, hA2⟩ := tell_e hL h0 cStp mWay cTrl mWys hV N' n0 n1
      obtain ⟨zc, zo, zs, zl, zR, zN, zP, zG, zT, zA, uS, uW, o1, o2, o3, o4, o5, o6, uR, uN, uP, uA, uY, N2, k1, k2, k3, k4⟩ := ih f (i + 1) p' q' (nx w th) rt' ln' xO xS xL yS yW s1 s2 s3 (nI (wcd w)) xR xN xP xG xT xA yR yN yP yA yY N' (by omega) (by omega) hc' hS' hv' hL2 hA2
      refine ⟨zc, zo, zs, zl, zR, zN, zP, zG, zT, zA, uS, uW, o1, o2, o3, o4, o5, o6, uR, uN, uP, uA, uY, N2, ?_, ?_, k3, k4⟩
      · show fX8_says_L34 (nI n) W F S (lp _ f) (nI i, nI th, cOpc, cStp, cLsz, cRts, cLns, cOpn, cGps, cTrl, cSgn) = _
        dsimp only [fX8_says_L34, fX8_says_J58]
        rw [if_neg nk, if_neg q0, show fX2_put cLsz cSgn 32 = _ from u1, bd_s]
        dsimp only
        rw [if_pos g30, if_pos g30, if_pos g30, cl, v1', v2', v3', t1, bd_s]
        dsimp only
        rw [nI_1]
        exact k1
      · show fX9_says_L67 (nI t) M (nI n) (lp _ f) (nI i, nI th, mSig, mWay, nI p, j1, j2, j3, j4, nI th, mRts, mLns, mOpn, mAns, mWys, N) = _
        dsimp only [fX9_says_L67, fX9_says_J87]
        rw [if_neg nk, r1, bd_s]
        dsimp only
        rw [if_neg q0, show fX9_putSign mSig mAns 32 = _ from u2, bd_s]
        dsimp only
        rw [t2, bd_s]
        dsimp only
        rw [nI_1]
        exact k2
end SAYS

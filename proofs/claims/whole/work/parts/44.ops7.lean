def smI (h : Nat → Int32) : Nat → Nat → Int32
  | _, 0 => 0
  | i, k + 1 => h i + smI h (i + 1) k
theorem i_a0 (x : Int32) : x + 0 = x := Int32.add_zero x
theorem i_0a (x : Int32) : 0 + x = x := Int32.zero_add x
theorem smI_snoc (h : Nat → Int32) : ∀ k i, smI h i (k + 1) = smI h i k + h (i + k) := by
  intro k
  induction k with
  | zero => intro i; rw [smI, smI, smI, i_a0, i_0a]; rfl
  | succ k ih =>
    intro i
    rw [smI, ih (i + 1), smI, show i + 1 + k = i + (k + 1) by omega, Int32.add_assoc]
theorem smI_cg {h h' : Nat → Int32} : ∀ k i, (∀ j, i ≤ j → j < i + k → h' j = h j) → smI h' i k = smI h i k := by
  intro k
  induction k with
  | zero => intro i _; rfl
  | succ k ih =>
    intro i e
    rw [smI, smI, e i (by omega) (by omega), ih (i + 1) (fun j a b => e j (by omega) (by omega))]
theorem smI_skip {h : Nat → Int32} : ∀ a i k, (∀ j, i ≤ j → j < i + a → h j = 0) → smI h i (a + k) = smI h (i + a) k := by
  intro a
  induction a with
  | zero => intro i k _; rw [Nat.zero_add, Nat.add_zero]
  | succ a ih =>
    intro i k e
    rw [show a + 1 + k = (a + k) + 1 by omega, smI, e i (by omega) (by omega), i_0a, ih (i + 1) k (fun j x y => e j (by omega) (by omega)), show i + 1 + a = i + (a + 1) by omega]
theorem itr_id {S : Type} {g : Nat → S → S} : ∀ k i s, (∀ j s, i ≤ j → j < i + k → g j s = s) → itr g i k s = s := by
  intro k
  induction k with
  | zero => intro i s _; rfl
  | succ k ih =>
    intro i s e
    rw [itr, e i s (by omega) (by omega), ih (i + 1) s (fun j s a b => e j s (by omega) (by omega))]
theorem itr_app {S : Type} {g : Nat → S → S} : ∀ a i k s, itr g i (a + k) s = itr g (i + a) k (itr g i a s) := by
  intro a
  induction a with
  | zero => intro i k s; rw [Nat.zero_add, Nat.add_zero]; rfl
  | succ a ih =>
    intro i k s
    rw [show a + 1 + k = (a + k) + 1 by omega, itr, itr, ih (i + 1) k, show i + 1 + a = i + (a + 1) by omega]
theorem itr_snoc {S : Type} {g : Nat → S → S} (k i : Nat) (s : S) : itr g i (k + 1) s = g (i + k) (itr g i k s) := by
  rw [itr_app k i 1 s]
  rfl
/-- how many hang on a village -/
def szf (n : Nat) (rt : Nat → Nat) : Nat → Nat → Int32
  | 0, _ => 1
  | f + 1, k => 1 + smI (fun c => if rt c = k then szf n rt f c else 0) (k + 1) (n - (k + 1))
theorem szf_st {n : Nat} {rt : Nat → Nat} : ∀ f g k, k < n → n ≤ k + f + 1 → n ≤ k + g + 1 → szf n rt f k = szf n rt g k := by
  intro f
  induction f with
  | zero =>
    intro g k hk h1 h2
    cases g with
    | zero => rfl
    | succ g =>
      rw [szf, szf, show n - (k + 1) = 0 by omega]
      rfl
  | succ f ih =>
    intro g k hk h1 h2
    cases g with
    | zero =>
      rw [szf, szf, show n - (k + 1) = 0 by omega]
      rfl
    | succ g =>
      rw [szf, szf]
      refine congrArg (1 + ·) (smI_cg _ _ (fun j a b => ?_))
      by_cases e : rt j = k
      · rw [if_pos e, if_pos e, ih g j (by omega) (by omega) (by omega)]
      · rw [if_neg e, if_neg e]
def SZ (n : Nat) (rt : Nat → Nat) (k : Nat) : Int32 := szf n rt n k
theorem SZ_eq {n : Nat} {rt : Nat → Nat} {k : Nat} (hk : k < n) : SZ n rt k = 1 + smI (fun c => if rt c = k then SZ n rt c else 0) (k + 1) (n - (k + 1)) := by
  unfold SZ
  rw [szf_st n (n + 1) k hk (by omega) (by omega), szf]
theorem weigh_e {n : Nat} {rt : Nat → Nat} {R : Nat → Int32} (n1 : 1 ≤ n) (h60 : n ≤ 60) (hr : ∀ v, 1 ≤ v → v < n → rt v < v ∧ R v = nI (rt v)) (w : Nat → Int32) : ∃ w', fX6_weigh (nI n) R w = some w' ∧ ∀ k, k < n → w' k = SZ n rt k := by
  have c1 := lp_rel (F := fX6_weigh_L2 (nI n)) (fun i (s : Nat → Int32) => (nI i, s)) (fun i s => ∀ k, k < i → s k = 1) n (fun s => some (nI n, s)) (fun k s _ => by
      dsimp only [fX6_weigh_L2]
      rw [if_pos (Int32.le_refl _)]) (fun k i s hi hs => by
      refine ⟨upd s i 1, ?_, fun j hj => ?_⟩
      · dsimp only [fX6_weigh_L2]
        rw [if_neg (nI_ge hi (by omega)), if_pos (gI_n (by omega) (by decide)), nI_clamp (by omega), nI_1]
      · by_cases q : j = i
        · rw [q]; exact upd_s
        · rw [upd_n q]; exact hs j (by omega)) n FU 0 w (by omega) (FU_lt (by omega)) (fun k hk => absurd hk (by omega))
  obtain ⟨w1, f1, g1⟩ := c1
  have c2 := lp_down (F := fX6_weigh_L36 (nI n) R) (fun i (s : Nat → Int32) => (nI i, s)) (fun i s => upd s (rt (i + 1)) (s (rt (i + 1)) + s (i + 1))) (fun i s => ∀ k, k < n → s k = 1 + smI (fun c => if rt c = k then SZ n rt c else 0) (i + 1) (n - (i + 1))) (n - 1) (fun s => some (nI 0, s)) (fun k s _ => by
      dsimp only [fX6_weigh_L36, fX6_weigh_J76]
      rw [if_pos (by decide)]) (fun k i s hi hs => by
      obtain ⟨q1, q2⟩ := hr (i + 1) (by omega) (by omega)
      refine ⟨?_, fun j hj => ?_⟩
      · dsimp only [fX6_weigh_L36, fX6_weigh_J76]
        rw [if_neg (nI_nle (by omega) (by omega)), if_pos (gI_n (show i + 1 < 60 by omega) (by decide)), nI_clamp (show i + 1 < 2 ^ 31 by omega), q2, has_v h60 (show rt (i + 1) < n by omega), bd_s, if_neg i1_0, if_pos (gI_n (show rt (i + 1) < 60 by omega) (by decide)), if_pos (gI_n (show i + 1 < 60 by omega) (by decide)), if_pos (gI_n (show rt (i + 1) < 60 by omega) (by decide)), nI_clamp (show rt (i + 1) < 2 ^ 31 by omega), pk_m1]
      · have hv : s (i + 1) = SZ n rt (i + 1) := by rw [hs (i + 1) (by omega), SZ_eq (by omega)]
        rw [show n - (i + 1) = (n - (i + 1 + 1)) + 1 by omega, smI]
        by_cases q : j = rt (i + 1)
        · rw [q, upd_s, hv, hs (rt (i + 1)) (by omega), if_pos rfl, Int32.add_assoc, Int32.add_comm (smI _ _ _)]
        · rw [upd_n q, hs j hj, if_neg (fun e => q e.symm), i_0a]) (n - 1) FU w1 (Nat.le_refl _) (FU_lt (by omega)) (fun k hk => by
        rw [g1 k hk, show n - (n - 1 + 1) = 0 by omega]
        rfl)
  obtain ⟨f2, g2⟩ := c2
  refine ⟨itd (fun i s => upd s (rt (i + 1)) (s (rt (i + 1)) + s (i + 1))) (n - 1) w1, ?_, fun k hk => ?_⟩
  · unfold fX6_weigh
    rw [show (0 : Int32) = nI 0 from rfl, f1, bd_s]
    dsimp only
    rw [show nI n - 1 = nI (n - 1) from by rw [show n = (n - 1) + 1 by omega, nI_pred, Nat.add_sub_cancel], f2]
    rfl
  · rw [g2 k hk, SZ_eq hk]
    refine congrArg (1 + ·) ?_
    rw [show n - (0 + 1) = k + (n - (k + 1)) by omega, smI_skip k (0 + 1) _ (fun j a b => if_neg (by have := (hr j (by omega) (by omega)).1; omega)), show 0 + 1 + k = k + 1 by omega]
def mI (w s : Int32) : Int32 := if s < w then w else s
theorem mI_le (w s : Int32) : (if w ≤ s then s else w) = mI w s := by
  unfold mI
  by_cases h : w ≤ s
  · rw [if_pos h, if_neg (by rw [le_i] at h; rw [lt_i]; omega)]
  · rw [if_neg h, if_pos (by rw [le_i] at h; rw [lt_i]; omega)]
def RS (n : Nat) (rt : Nat → Nat) (v : Nat) : Int32 := itr (fun u s => if rt u = v then mI (SZ n rt u) s else s) (v + 1) (n - (v + 1)) (nI n - SZ n rt v)
theorem restC_e {n : Nat} {rt : Nat → Nat} {R w : Nat → Int32} (h60 : n ≤ 60) (hr : ∀ v, 1 ≤ v → v < n → rt v < v ∧ R v = nI (rt v)) (hw : ∀ k, k < n → w k = SZ n rt k) {v : Nat} (hv : v < n) : fX6_greatestRest (nI n) R w (nI v) = some (RS n rt v) := by
  have c1 := lp_for (F := fX6_greatestRest_L17 (nI n) R w (nI v)) (fun i (s : Int32) => (s, nI i)) (fun u s => if rt u = v then mI (SZ n rt u) s else s) (fun i _ => 1 ≤ i) n (fun s => some (s, nI n)) (fun k s _ => by
      dsimp only [fX6_greatestRest_L17]
      rw [if_pos (Int32.le_refl _)]) (fun k i s hi hs => by
      obtain ⟨q1, q2⟩ := hr i hs hi
      refine ⟨?_, by omega⟩
      dsimp only [fX6_greatestRest_L17, fX6_greatestRest_J52]
      rw [if_neg (nI_ge hi (by omega)), if_pos (gI_n (show i < 60 by omega) (by decide)), nI_clamp (show i < 2 ^ 31 by omega), q2, nI_1]
      by_cases e : rt i = v
      · rw [if_pos (by rw [e]), if_pos e, if_pos (gI_n (show i < 60 by omega) (by decide)), hw i hi]
        rfl
      · rw [if_neg (by rw [nI_eq (by omega) (by omega)]; exact e), if_neg e]) (n - 1) FU 1 (nI n - SZ n rt v) (by omega) (FU_lt (by omega)) (Nat.le_refl _)
  unfold fX6_greatestRest
  rw [if_pos (gI_n (by omega) (by decide)), nI_clamp (by omega), hw v hv, show (1 : Int32) = nI 1 from rfl, c1.1]
  show some _ = some _
  refine congrArg some ?_
  rw [show n - 1 = v + (n - (v + 1)) by omega, itr_app, itr_id v 1 _ (fun j s a b => if_neg (by have := (hr j a (by omega)).1; omega)), Nat.add_comm 1 v]
  rfl
set_option maxRecDepth 20000 in
theorem restM_e {n : Nat} {rt : Nat → Nat} {M : Nat → Int32} (n1 : 1 ≤ n) (h60 : n ≤ 60) (hr : ∀ v, 1 ≤ v → v < n → rt v < v ∧ M v = nI (rt v)) (z : Nat → Int32) {v : Nat} (hv : v < n) : ∃ z', fX9_restOf (nI n) M z (nI v) = some (RS n rt v, z') := by
  have inner : ∀ (i : Nat) (s : Nat → Int32), i < n → (∀ k, i < k → k < n → s k = SZ n rt k) → ∃ s', lp (fX9_restOf_L22 (nI n) M (nI i)) FU (nI (i + 1), upd s i 1) = some (nI n, s') ∧ ∀ k, i ≤ k → k < n → s' k = SZ n rt k := by
    intro i s hi hs
    have c := lp_rel (F := fX9_restOf_L22 (nI n) M (nI i)) (fun j (s : Nat → Int32) => (nI j, s)) (fun j s => i < j ∧ s i = 1 + smI (fun c => if rt c = i then SZ n rt c else 0) (i + 1) (j - (i + 1)) ∧ ∀ k, i < k → k < n → s k = SZ n rt k) n (fun s => some (nI n, s)) (fun k s _ => by
        dsimp only [fX9_restOf_L22]
        rw [if_pos (Int32.le_refl _)]) (fun k j s hj hs => by
        obtain ⟨z1, z2, z3⟩ := hs
        obtain ⟨q1, q2⟩ := hr j (by omega) hj
        refine ⟨upd s i (s i + (if rt j = i then SZ n rt j else 0)), ?_, by omega, ?_, fun k a b => ?_⟩
        · dsimp only [fX9_restOf_L22, fX9_restOf_J57]
          rw [if_neg (nI_ge hj (by omega)), if_pos (gI_n (show i < 60 by omega) (by decide)), if_pos (gI_n (show j < 60 by omega) (by decide)), nI_clamp (show j < 2 ^ 31 by omega), q2, nI_clamp (show i < 2 ^ 31 by omega), nI_1]
          by_cases e : rt j = i
          · rw [if_pos (by rw [e]), if_pos (gI_n (show j < 60 by omega) (by decide)), if_pos (gI_n (show i < 60 by omega) (by decide)), if_pos e, z3 j z1 hj]
          · rw [if_neg (by rw [nI_eq (by omega) (by omega)]; exact e), if_pos (gI_n (show i < 60 by omega) (by decide)), if_neg e]
        · rw [upd_s, z2, show j + 1 - (i + 1) = (j - (i + 1)) + 1 by omega, smI_snoc, show i + 1 + (j - (i + 1)) = j by omega, Int32.add_assoc]
        · rw [upd_n (by omega)]; exact z3 k a b) (n - (i + 1)) FU (i + 1) (upd s i 1) (by omega) (FU_lt (by omega)) ⟨by omega, by rw [upd_s, Nat.sub_self]; rfl, fun k a b => by rw [upd_n (by omega)]; exact hs k a b⟩
    obtain ⟨s', c1, -, c2, c3⟩ := c
    refine ⟨s', c1, fun k a b => ?_⟩
    by_cases q : k = i
    · rw [q, c2, SZ_eq hi]
    · exact c3 k (by omega) b
  have outer : ∀ (m f : Nat) (s : Nat → Int32), m ≤ n → m < f → (∀ k, m ≤ k → k < n → s k = SZ n rt k) → ∃ s', lp (fX9_restOf_L7 (nI n) M) f (nI m + (-1), s) = some (-1, s') ∧ ∀ k, k < n → s' k = SZ n rt k := by
    intro m
    induction m with
    | zero =>
      intro f s hm hf hs
      cases f with
      | zero => omega
      | succ f =>
        refine ⟨s, ?_, fun k hk => hs k (by omega) hk⟩
        show fX9_restOf_L7 (nI n) M (lp _ f) (-1, s) = _
        dsimp only [fX9_restOf_L7]
        rw [if_pos (by decide)]
    | succ m ih =>
      intro f s hm hf hs
      cases f with
      | zero => omega
      | succ f =>
        obtain ⟨s1, i1, i2⟩ := inner m s (by omega) (fun k a b => hs k (by omega) b)
        obtain ⟨s2, o1, o2⟩ := ih f s1 (by omega) (by omega) i2
        refine ⟨s2, ?_, o2⟩
        rw [pk_m1]
        show fX9_restOf_L7 (nI n) M (lp _ f) (nI m, s) = _
        dsimp only [fX9_restOf_L7]
        rw [if_neg (nI_pos (by omega)), if_pos (gI_n (by omega) (by decide)), nI_clamp (by omega), nI_1, i1, bd_s]
        exact o1
  obtain ⟨z', o1, o2⟩ := outer n FU z (Nat.le_refl _) (FU_lt (by omega)) (fun k a b => absurd b (by omega))
  have c1 := lp_for (F := fX9_restOf_L87 (nI n) M (nI v) z') (fun i (s : Int32) => (s, nI i)) (fun u s => if rt u = v then mI (SZ n rt u) s else s) (fun i _ => v < i) n (fun s => some (s, nI n)) (fun k s _ => by
      dsimp only [fX9_restOf_L87]
      rw [if_pos (Int32.le_refl _)]) (fun k i s hi hs => by
      obtain ⟨q1, q2⟩ := hr i (by omega) hi
      refine ⟨?_, by omega⟩
      dsimp only [fX9_restOf_L87, fX9_restOf_J124, fX9_restOf_J125]
      rw [if_neg (nI_ge hi (by omega)), if_pos (gI_n (show i < 60 by omega) (by decide)), nI_clamp (show i < 2 ^ 31 by omega), q2, nI_1]
      by_cases e : rt i = v
      · rw [if_pos (by rw [e]), if_pos e, if_pos (gI_n (show i < 60 by omega) (by decide)), if_pos (gI_n (show i < 60 by omega) (by decide)), o2 i hi, ← mI_le]
        by_cases y : SZ n rt i ≤ s
        · rw [if_pos y, if_pos y]
        · rw [if_neg y, if_neg y]
      · rw [if_neg (by rw [nI_eq (by omega) (by omega)]; exact e), if_neg e]) (n - (v + 1)) FU (v + 1) (nI n - SZ n rt v) (by omega) (FU_lt (by omega)) (by omega)
  refine ⟨z', ?_⟩
  unfold fX9_restOf
  rw [show (nI n - (1 : Int32), z) = (nI n + (-1), z) from pr2 (Int32.sub_eq_add_neg _ _) rfl, o1, bd_s]
  dsimp only
  rw [if_pos (gI_n (by omega) (by decide)), nI_clamp (by omega), o2 v hv, nI_1, c1.1]
  rfl
def DA (n : Nat) (d : Nat → Nat → Nat) (v : Nat) : Nat := itr (fun u s => s + d v u) 0 n 0
theorem daC_e {n : Nat} {d : Nat → Nat → Nat} {g R Ls : Nat → Int32} (E : EnvD n d g R Ls) {v : Nat} (hv : v < n) : fX6_distanceOfAll (nI n) g (nI v) = some (nI (DA n d v)) := by
  obtain ⟨n1, h60, eg, ef, sy, le⟩ := E
  have c1 := lp_for (F := fX6_distanceOfAll_L4 (nI n) g (nI v)) (fun i s => (nI s, nI i)) (fun u s => s + d v u) (fun _ _ => True) n (fun s => some (nI s, nI n)) (fun k s _ => by
      dsimp only [fX6_distanceOfAll_L4]
      rw [if_pos (Int32.le_refl _)]) (fun k i s hi _ => by
      refine ⟨?_, trivial⟩
      dsimp only [fX6_distanceOfAll_L4]
      rw [if_neg (nI_ge hi (by omega)), eg v i hv hi, bd_s, nI_1, nI_add]) n FU 0 0 (by omega) (FU_lt (by omega)) trivial
  unfold fX6_distanceOfAll
  rw [show ((0 : Int32), (0 : Int32)) = (nI 0, nI 0) from rfl, c1.1]
  rfl
theorem daM_e {n : Nat} {d : Nat → Nat → Nat} {g R Ls : Nat → Int32} (E : EnvD n d g R Ls) {v : Nat} (hv : v < n) : fX9_sumFrom (nI n) R Ls (nI v) = some (nI (DA n d v)) := by
  obtain ⟨n1, h60, eg, ef, sy, le⟩ := E
  have c1 := lp_for (F := fX9_sumFrom_L4 (nI n) R Ls (nI v)) (fun i s => (nI s, nI i)) (fun u s => s + d v u) (fun _ _ => True) n (fun s => some (nI s, nI n)) (fun k s _ => by
      dsimp only [fX9_sumFrom_L4]
      rw [if_pos (Int32.le_refl _)]) (fun k i s hi _ => by
      refine ⟨?_, trivial⟩
      dsimp only [fX9_sumFrom_L4]
      rw [if_neg (nI_ge hi (by omega)), ef i v hi hv, bd_s, nI_1, nI_add, sy i v hi hv]) n FU 0 0 (by omega) (FU_lt (by omega)) trivial
  unfold fX9_sumFrom
  rw [show ((0 : Int32), (0 : Int32)) = (nI 0, nI 0) from rfl, c1.1]
  rfl
def bur (n : Nat) (d : Nat → Nat → Nat) (rt : Nat → Nat) (p : Int32) (v : Nat) : Int32 := if p = 0 then nI (FM n d v) else if p = 1 then nI (DA n d v) else RS n rt v
def gB (b : Nat → Int32) (i : Nat) (s : Nat × Int32) : Nat × Int32 := if s.2 ≤ b i then s else (i, b i)
set_option maxRecDepth 20000 in
theorem op_middle {cBad cFul cCnt cOpc cTsz cLsz mVil mBad mFul mLen mSig : Int32} {cRts cLns cOpn cGps cWgt cByt cSgn mRts mLns mOpn mTxt mAns mSiz : Nat → Int32} (h : Rel cBad cFul cCnt cOpc cTsz cLsz cRts cLns cOpn cGps cByt cSgn mVil mBad mFul mLen mSig mRts mLns mOpn mTxt mAns) (p0 : Int32) : ∃ (rv : Int32) (zcBad : Int32) (zcWgt : Nat → Int32) (zmBad : Int32) (zmSiz : Nat → Int32), fX8_middle cBad cCnt cRts cGps cWgt p0 = some (rv, zcBad, zcWgt) ∧ fX9_middle mVil mBad mRts mLns mSiz p0 = some (rv, zmBad, zmSiz) ∧ Rel zcBad cFul cCnt cOpc cTsz cLsz cRts cLns cOpn cGps cByt cSgn mVil zmBad mFul mLen mSig mRts mLns mOpn mTxt mAns := by
  obtain ⟨hB, hU, ⟨n, rt, ln, hL⟩, hT, hA⟩ := h
  subst hB hU
  obtain ⟨h1, h60, hc, hm, hrt, -⟩ := id hL
  subst hc hm
  have E := hL.env
  have e2 : (2 : Int32).toInt = 2 := by decide
  have e2' : (2 : Int64).toInt = 2 := by decide
  have e0' : (0 : Int64).toInt = 0 := by decide
  by_cases a0 : 0 ≤ p0.toInt ∧ p0.toInt ≤ 2
  · obtain ⟨w', w1, w2⟩ := weigh_e h1 h60 (fun v a b => ⟨(hrt v a b).1, (hrt v a b).2.1⟩) cWgt
    have hbC : ∀ v, v < n → fX6_burden (nI n) cRts cGps w' (nI v) p0 = some (bur n (dist rt ln) rt p0 v) := by
      intro v hv
      unfold fX6_burden bur
      rw [farC_e E hv, daC_e E hv, restC_e h60 (fun v a b => ⟨(hrt v a b).1, (hrt v a b).2.1⟩) w2 hv]
      split
      · rfl
      · split <;> rfl
    have c1 := lp_for (F := fX6_heart_L16 (nI n) cRts cGps p0 w') (fun i (s : Nat × Int32) => (nI s.1, s.2, nI i)) (gB (bur n (dist rt ln) rt p0)) (fun _ _ => True) n (fun s => some (nI s.1, s.2, nI n)) (fun k s _ => by
        dsimp only [fX6_heart_L16]
        rw [if_pos (Int32.le_refl _)]) (fun k i s hi _ => by
        refine ⟨?_, trivial⟩
        dsimp only [fX6_heart_L16, fX6_heart_J49]
        unfold gB
        rw [if_neg (nI_ge hi (by omega)), hbC i hi, bd_s, nI_1]
        by_cases q : s.2 ≤ bur n (dist rt ln) rt p0 i
        · rw [if_pos q, if_pos q]
        · rw [if_neg q, if_neg q]) (n - 1) FU 1 (0, bur n (dist rt ln) rt p0 0) (by omega) (FU_lt (by omega)) trivial
    have c2 := lp_rel (F := fX9_middle_L24 (nI n) mRts mLns p0) (fun i (s : (Nat × Int32) × (Nat → Int32)) => (nI s.1.1, s.1.2, nI i, s.2)) (fun i s => i = 0 ∨ (1 ≤ i ∧ s.1 = itr (gB (bur n (dist rt ln) rt p0)) 1 (i - 1) (0, bur n (dist rt ln) rt p0 0))) n (fun s => some (nI s.1.1, s.1.2, nI n, s.2)) (fun k s _ => by
        dsimp only [fX9_middle_L24]
        rw [if_pos (Int32.le_refl _)]) (fun k i s hi hs => by
        obtain ⟨⟨bs, lst⟩, z⟩ := s
        have key : ∃ z', fX9_middle_L24 (nI n) mRts mLns p0 k (nI bs, lst, nI i, z) = fX9_middle_J66 (nI bs) lst (nI i) k (bur n (dist rt ln) rt p0 i) z' := by
          dsimp only [fX9_middle_L24]
          unfold bur
          rw [if_neg (nI_ge hi (by omega)), farM_e E hi, daM_e E hi]
          by_cases q0 : p0 = 0
          · exact ⟨z, by rw [if_pos q0, if_pos q0]; rfl⟩
          · by_cases q1 : p0 = 1
            · exact ⟨z, by rw [if_neg q0, if_neg q0, if_pos q1, if_pos q1]; rfl⟩
            · obtain ⟨z', hz'⟩ := restM_e h1 h60 (fun v a b => ⟨(hrt v a b).1, (hrt v a b).2.2.1⟩) z hi
              exact ⟨z', by rw [if_neg q0, if_neg q0, if_neg q1, if_neg q1, hz']; rfl⟩
        obtain ⟨z', hz'⟩ := key
        by_cases q : i = 0
        · subst q
          refine ⟨((0, bur n (dist rt ln) rt p0 0), z'), ?_, Or.inr ⟨by omega, rfl⟩⟩
          show fX9_middle_L24 (nI n) mRts mLns p0 k (nI bs, lst, nI 0, z) = _
          rw [hz']
          dsimp only [fX9_middle_J66, fX9_middle_J79, fX9_middle_J85, fX9_middle_J97, fX9_middle_J103]
          rw [if_pos (show nI 0 = (0 : Int32) from rfl), if_pos (show nI 0 = (0 : Int32) from rfl), nI_1]
        · have hs' := (hs.resolve_left q).2
          refine ⟨(gB (bur n (dist rt ln) rt p0) i (bs, lst), z'), ?_, Or.inr ⟨by omega, ?_⟩⟩
          · show fX9_middle_L24 (nI n) mRts mLns p0 k (nI bs, lst, nI i, z) = _
            rw [hz']
            dsimp only [fX9_middle_J66, fX9_middle_J79, fX9_middle_J85, fX9_middle_J97, fX9_middle_J103]
            unfold gB
            have n0 : ¬ nI i = (0 : Int32) := nI_ne0 (by omega) (by omega)
            rw [if_neg n0, if_neg n0, if_neg n0, nI_1]
            by_cases y : lst ≤ bur n (dist rt ln) rt p0 i
            · rw [if_pos y, if_pos y, if_pos y]
            · rw [if_neg y, if_neg y, if_neg y]
          · show gB (bur n (dist rt ln) rt p0) i (bs, lst) = _
            rw [show i + 1 - 1 = (i - 1) + 1 by omega, itr_snoc, ← hs', show 1 + (i - 1) = i by omega]) n FU 0 ((0, 0), mSiz) (by omega) (FU_lt (by omega)) (Or.inl rfl)
    obtain ⟨⟨x, z'⟩, k1, k2⟩ := c2
    have k3 := (k2.resolve_left (by omega)).2
    dsimp only at k3
    refine ⟨nI x.1, mBad, w', mBad, z', ?_, ?_, rfl, rfl, ⟨n, rt, ln, hL⟩, hT, hA⟩
    · simp only [fX8_middle, fX6_heart, upto_e, e2, if_pos a0, bd_s, if_neg i1_0, w1]
      rw [show (0 : Int32) = nI 0 from rfl, hbC 0 h1, bd_s]
      rw [show (1 : Int32) = nI 1 from rfl, c1.1, bd_s, ← k3]
      rfl
    · simp only [fX9_middle, in_l _ _ _ e0' e2', if_pos a0, bd_s, if_neg i1_0]
      rw [show ((0 : Int32), (0 : Int32), (0 : Int32), mSiz) = (nI 0, 0, nI 0, mSiz) from rfl, k1]
      rfl
  · refine ⟨-2, mBad + 1, cWgt, mBad + 1, mSiz, ?_, ?_, rfl, rfl, ⟨n, rt, ln, hL⟩, hT, hA⟩
    · simp only [fX8_middle, fX8_refuseBad, upto_e, e2, if_neg a0, bd_s, if_true]
    · simp only [fX9_middle, fX9_refuse, in_l _ _ _ e0' e2', if_neg a0, bd_s, if_true]

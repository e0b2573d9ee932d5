/-! The table of distances is kept: measure, settle, setRoad. -/
def TabOK (n : Nat) (rt ln : Nat → Nat) (g : Nat → Int32) : Prop := (∀ u v, u < n → v < n → g (u * 60 + v) = nI (dist rt ln u v)) ∧ ∀ v, v < 60 → g (v * 60 + v) = 0
theorem ixne {a b c d : Nat} (hb : b < 60) (hd : d < 60) (h : a ≠ c ∨ b ≠ d) : a * 60 + b ≠ c * 60 + d := by omega
theorem meas_step {N i : Nat} {rt ln : Nat → Nat} {R Ls g : Nat → Int32} {c : Int32} (hT : Tree N rt ln R Ls) (hc : c = nI N) (hi : i < N) (h1 : 1 ≤ i) (hg : TabOK i rt ln g) : ∃ g', fX1_measure c R Ls g (nI i) = some g' ∧ TabOK (i + 1) rt ln g' := by
  subst hc
  have h60 := hT.1
  obtain ⟨hr, hl, e1, e2⟩ := hT.2 i h1 hi
  have hN := hT.r
  have hlp := lp_for (F := fX1_measure_L9 (nI N) R Ls (nI i)) (fun j (s : Nat → Int32) => (nI j, s)) (fun j s => upd (upd s (i * 60 + j) (nI (dist rt ln i j))) (j * 60 + i) (nI (dist rt ln i j)))
    (fun j s => (∀ u, u < j → s (i * 60 + u) = nI (dist rt ln i u) ∧ s (u * 60 + i) = nI (dist rt ln i u)) ∧ (∀ a b, a < 60 → b < 60 → a ≠ i → b ≠ i → s (a * 60 + b) = g (a * 60 + b)) ∧ s (i * 60 + i) = g (i * 60 + i))
    i (fun s => some (nI i, s)) (fun k s hs => by
      dsimp only [fX1_measure_L9]
      rw [if_pos (Int32.le_refl _)]) (fun k j s hj hs => by
      obtain ⟨q1, q2, q3⟩ := hs
      refine ⟨?_, fun u hu => ?_, fun a b ha hb na nb => ?_, ?_⟩
      · dsimp only [fX1_measure_L9]
        rw [if_neg (nI_ge hj (by omega)), nI_clamp (show i < 2 ^ 31 by omega), e1, has_v h60 (show rt i < N by omega), bd_s, if_neg i1_0, gap_e (by omega) (by omega), bd_s, q2 (rt i) j (by omega) (by omega) (by omega) (by omega), hg.1 (rt i) j hr hj, if_pos (gI_n (by omega) (by decide)), ix60, ix60, if_pos (gI_n (by omega) (by decide)), if_pos (gI_n (by omega) (by decide)), nI_clamp (by omega), nI_clamp (by omega), e2, nI_add, nI_1, dist_gt hN hi hj, Nat.add_comm (dist rt ln (rt i) j) (ln i)]
      · by_cases e : u = j
        · subst e
          exact ⟨by rw [upd_n (ixne (by omega) (by omega) (by omega)), upd_s], upd_s⟩
        · obtain ⟨z1, z2⟩ := q1 u (by omega)
          exact ⟨by rw [upd_n (ixne (by omega) (by omega) (by omega)), upd_n (ixne (by omega) (by omega) (by omega)), z1], by rw [upd_n (ixne (by omega) (by omega) (by omega)), upd_n (ixne (by omega) (by omega) (by omega)), z2]⟩
      · rw [upd_n (ixne (by omega) (by omega) (by omega)), upd_n (ixne (by omega) (by omega) (by omega)), q2 a b ha hb na nb]
      · rw [upd_n (ixne (by omega) (by omega) (by omega)), upd_n (ixne (by omega) (by omega) (by omega)), q3]) i FU 0 g (by omega) (FU_lt (by omega)) ⟨fun u hu => absurd hu (by omega), fun a b _ _ _ _ => rfl, rfl⟩
  obtain ⟨hlp, q1, q2, q3⟩ := hlp

  generalize itr (fun j (s : Nat → Int32) => upd (upd s (i * 60 + j) (nI (dist rt ln i j))) (j * 60 + i) (nI (dist rt ln i j))) 0 i g = g' at hlp q1 q2 q3
  refine ⟨g', ?_, fun u v hu hv => ?_, fun v hv => ?_⟩
  · unfold fX1_measure
    rw [if_pos (gI_n (by omega) (by decide)), show (0 : Int32) = nI 0 from rfl, hlp]
    rfl
  · by_cases eu : u = i
    · by_cases ev : v = i
      · subst eu ev
        rw [q3, hg.2 v (by omega), dist_0]
        rfl
      · subst eu
        rw [(q1 v (by omega)).1]
    · by_cases ev : v = i
      · subst ev
        rw [(q1 u (by omega)).2, dist_sym hN (show u < N by omega) hi]
      · rw [q2 u v (by omega) (by omega) eu ev, hg.1 u v (by omega) (by omega)]
  · by_cases ev : v = i
    · subst ev
      rw [q3, hg.2 v hv]
    · rw [q2 v v hv hv ev ev, hg.2 v hv]
theorem TabOK.cg {n : Nat} {rt ln rt' ln' : Nat → Nat} {g : Nat → Int32} (hr : ∀ v, 1 ≤ v → v < n → rt v < v) (h1 : ∀ v, 1 ≤ v → v < n → rt' v = rt v) (h2 : ∀ v, 1 ≤ v → v < n → ln' v = ln v) (h : TabOK n rt ln g) : TabOK n rt' ln' g := ⟨fun u v hu hv => by rw [h.1 u v hu hv, dist_cg hr h1 h2 hu hv], h.2⟩
def upN (f : Nat → Nat) (k x : Nat) : Nat → Nat := fun j => if j = k then x else f j
theorem upN_s {f : Nat → Nat} {k x : Nat} : upN f k x k = x := by simp [upN]
theorem upN_n {f : Nat → Nat} {k j x : Nat} (h : j ≠ k) : upN f k x j = f j := by simp [upN, h]
/-- a village comes -/
theorem settle_e {n : Nat} {rt ln : Nat → Nat} {cOpc : Int32} {cRts cLns cOpn cGps mRts mLns mOpn : Nat → Int32} (hL : LandR n rt ln (nI n) cOpc cRts cLns cOpn cGps (nI n) mRts mLns mOpn) (hn : n < 60) {r x : Nat} (hr : r < n) (hx : 1 ≤ x) (hx2 : x ≤ 99) :
    ∃ g', fX1_settle (nI n) cRts cLns cOpn cGps (nI r) (nI x) = some (nI n, nI (n + 1), upd cRts n (nI r), upd cLns n (nI x), upd cOpn n 0, g') ∧ fX9_come (nI n) mRts mLns mOpn (nI r) (nI x) = some (nI n, nI (n + 1), upd mRts n (nI r), upd mLns n (nI x), upd mOpn n 0) ∧
      LandR (n + 1) (upN rt n r) (upN ln n x) (nI (n + 1)) cOpc (upd cRts n (nI r)) (upd cLns n (nI x)) (upd cOpn n 0) g' (nI (n + 1)) (upd mRts n (nI r)) (upd mLns n (nI x)) (upd mOpn n 0) := by
  have hTC := hL.treeC
  obtain ⟨n1, h60, hc, hm, hrt, hr0, hm0, hl0, hop, hoc, hg, hd⟩ := hL
  have hrt' : ∀ v, 1 ≤ v → v < n + 1 → upN rt n r v < v ∧ upd cRts n (nI r) v = nI (upN rt n r v) ∧ upd mRts n (nI r) v = nI (upN rt n r v) ∧ 1 ≤ upN ln n x v ∧ upN ln n x v ≤ 99 ∧ upd cLns n (nI x) v = nI (upN ln n x v) ∧ upd mLns n (nI x) v = nI (upN ln n x v) := by
    intro v h1 h2
    by_cases e : v = n
    · subst e
      simp only [upN_s, upd_s]
      exact ⟨hr, trivial, trivial, hx, hx2, trivial, trivial⟩
    · simp only [upN_n e, upd_n e]
      exact hrt v h1 (by omega)
  have hT' : Tree (n + 1) (upN rt n r) (upN ln n x) (upd cRts n (nI r)) (upd cLns n (nI x)) := ⟨by omega, fun v h1 h2 => by obtain ⟨a, b, -, -, d, e, -⟩ := hrt' v h1 h2; exact ⟨a, d, b, e⟩⟩
  obtain ⟨g', e1, e2⟩ := meas_step (g := cGps) hT' rfl (show n < n + 1 by omega) n1 (TabOK.cg hTC.r (fun v _ h => upN_n (by omega)) (fun v _ h => upN_n (by omega)) ⟨hg, hd⟩)
  refine ⟨g', ?_, ?_, by omega, by omega, rfl, rfl, hrt', by rw [upd_n (by omega)]; exact hr0, by rw [upd_n (by omega)]; exact hm0, by rw [upd_n (by omega)]; exact hl0, fun v hv => ?_, ?_, e2.1, e2.2⟩
  · simp only [fX1_settle, has_v h60 hr, bd_s, if_neg i1_0, if_pos (show nI n < (60 : Int32) from nI_lt hn (by decide)), gI_n hn (by decide), if_true, nI_clamp (show n < 2 ^ 31 by omega), nI_1, e1, nar_b0]
  · simp only [fX9_come, gI_n hn (by decide), if_true, nI_clamp (show n < 2 ^ 31 by omega), nI_1, nar_b0, nI_pred]
  · by_cases e : v = n
    · subst e
      rw [upd_s, upd_s]
      exact ⟨Or.inl rfl, rfl⟩
    · rw [upd_n e, upd_n e]
      exact hop v (by omega)
  · rw [cntO, upd_s, if_pos rfl, cntO_cg (o := cOpn) n (fun v hv => upd_n (by omega))]
    exact hoc
/-- a road becomes of another length -/
theorem setRoad_e {n : Nat} {rt ln : Nat → Nat} {cOpc : Int32} {cRts cLns cOpn cGps mRts mLns mOpn : Nat → Int32} (hL : LandR n rt ln (nI n) cOpc cRts cLns cOpn cGps (nI n) mRts mLns mOpn) {v x : Nat} (h1 : 1 ≤ v) (hv : v < n) (hx : 1 ≤ x) (hx2 : x ≤ 99) :
    ∃ g', fX1_setRoad (nI n) cRts cLns cGps (nI v) (nI x) = some (nI (ln v), upd cLns v (nI x), g') ∧ fX9_lengthen mLns (nI v) (nI x) = some (nI (ln v), upd mLns v (nI x)) ∧
      LandR n rt (upN ln v x) (nI n) cOpc cRts (upd cLns v (nI x)) cOpn g' (nI n) mRts (upd mLns v (nI x)) mOpn := by
  have hTC := hL.treeC
  obtain ⟨n1, h60, hc, hm, hrt, hr0, hm0, hl0, hop, hoc, hg, hd⟩ := hL
  have hrt' : ∀ w, 1 ≤ w → w < n → rt w < w ∧ cRts w = nI (rt w) ∧ mRts w = nI (rt w) ∧ 1 ≤ upN ln v x w ∧ upN ln v x w ≤ 99 ∧ upd cLns v (nI x) w = nI (upN ln v x w) ∧ upd mLns v (nI x) w = nI (upN ln v x w) := by
    intro w a b
    obtain ⟨q1, q2, q3, q4, q5, q6, q7⟩ := hrt w a b
    by_cases e : w = v
    · subst e
      simp only [upN_s, upd_s]
      exact ⟨q1, q2, q3, hx, hx2, trivial, trivial⟩
    · simp only [upN_n e, upd_n e]
      exact ⟨q1, q2, q3, q4, q5, q6, q7⟩
  have hT' : Tree n rt (upN ln v x) cRts (upd cLns v (nI x)) := ⟨by omega, fun w a b => by obtain ⟨q1, q2, -, -, q5, q6, -⟩ := hrt' w a b; exact ⟨q1, q5, q2, q6⟩⟩
  have key : ∀ (m f i : Nat) (g : Nat → Int32), i + m = n → m < f → v ≤ i → TabOK i rt (upN ln v x) g → ∃ g', lp (fX1_setRoad_L27 (nI n) cRts cLns (nI v) (nI x)) f (nI i, g) = some (nI n, g') ∧ TabOK n rt (upN ln v x) g' := by
    intro m
    induction m with
    | zero =>
      intro f i g hi hf hvi ht
      obtain rfl : i = n := by omega
      cases f with
      | zero => omega
      | succ f =>
        refine ⟨g, ?_, ht⟩
        show fX1_setRoad_L27 (nI i) cRts cLns (nI v) (nI x) (lp _ f) (nI i, g) = _
        dsimp only [fX1_setRoad_L27]
        rw [if_pos (Int32.le_refl _)]
    | succ m ih =>
      intro f i g hi hf hvi ht
      cases f with
      | zero => omega
      | succ f =>
        obtain ⟨g1, e1, e2⟩ := meas_step (g := g) hT' rfl (show i < n by omega) (by omega) ht
        obtain ⟨g2, e3, e4⟩ := ih f (i + 1) g1 (by omega) (by omega) (by omega) e2
        refine ⟨g2, ?_, e4⟩
        show fX1_setRoad_L27 (nI n) cRts cLns (nI v) (nI x) (lp _ f) (nI i, g) = _
        dsimp only [fX1_setRoad_L27]
        rw [if_neg (nI_ge (show i < n by omega) (by omega)), nI_clamp (show v < 2 ^ 31 by omega), e1, bd_s, nI_1, e3]
  obtain ⟨g', k1, k2⟩ := key (n - v) FU v cGps (by omega) (FU_lt (by omega)) (Nat.le_refl _) (TabOK.cg (fun w a b => (hrt w a (by omega)).1) (fun _ _ _ => rfl) (fun w _ h => upN_n (by omega)) ⟨fun a b ha hb => hg a b (by omega) (by omega), hd⟩)
  refine ⟨g', ?_, ?_, n1, h60, rfl, rfl, hrt', hr0, hm0, by rw [upd_n (by omega)]; exact hl0, hop, hoc, k2.1, k2.2⟩
  · simp only [fX1_setRoad, has_v h60 hv, if_neg i1_0, gI_n (show v < 60 by omega) (by decide), if_true, k1, bd_s, nI_clamp (show v < 2 ^ 31 by omega), (hrt v h1 hv).2.2.2.2.2.1]
  · simp only [fX9_lengthen, gI_n (show v < 60 by omega) (by decide), if_true, nI_clamp (show v < 2 ^ 31 by omega), (hrt v h1 hv).2.2.2.2.2.2]

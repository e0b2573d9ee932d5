/-! How far: the recurrence, symmetry, bounds; the reference's loop computes it. -/
theorem dst_any {rt ln : Nat → Nat} {n : Nat} (hr : ∀ v, 1 ≤ v → v < n → rt v < v) : ∀ (f g a b : Nat), a < n → b < n → a + b ≤ f → a + b ≤ g → dst rt ln f a b = dst rt ln g a b := by
  intro f
  induction f with
  | zero =>
    intro g a b ha hb h1 h2
    obtain rfl : a = 0 := by omega
    obtain rfl : b = 0 := by omega
    cases g with
    | zero => rfl
    | succ g => simp [dst]
  | succ f ih =>
    intro g a b ha hb h1 h2
    cases g with
    | zero =>
      obtain rfl : a = 0 := by omega
      obtain rfl : b = 0 := by omega
      simp [dst]
    | succ g =>
      unfold dst
      by_cases e : a = b
      · rw [if_pos e, if_pos e]
      · rw [if_neg e, if_neg e]
        by_cases l : b < a
        · have := hr a (by omega) ha
          rw [if_pos l, if_pos l, ih g (rt a) b (by omega) hb (by omega) (by omega)]
        · have := hr b (by omega) hb
          rw [if_neg l, if_neg l, ih g a (rt b) ha (by omega) (by omega) (by omega)]
theorem dist_0 {rt ln : Nat → Nat} (a : Nat) : dist rt ln a a = 0 := by
  unfold dist
  cases a with
  | zero => rfl
  | succ a => simp [dst, show a + 1 + (a + 1) = (a + 1 + a) + 1 by omega]
theorem dist_gt {rt ln : Nat → Nat} {n : Nat} (hr : ∀ v, 1 ≤ v → v < n → rt v < v) {a b : Nat} (ha : a < n) (h : b < a) : dist rt ln a b = ln a + dist rt ln (rt a) b := by
  have h1 := hr a (by omega) ha
  unfold dist
  rw [show a + b = (a + b - 1) + 1 by omega]
  rw [dst, if_neg (by omega), if_pos h, dst_any hr (a + b - 1) (rt a + b) (rt a) b (by omega) (by omega) (by omega) (by omega)]
theorem dist_lt {rt ln : Nat → Nat} {n : Nat} (hr : ∀ v, 1 ≤ v → v < n → rt v < v) {a b : Nat} (hb : b < n) (h : a < b) : dist rt ln a b = ln b + dist rt ln a (rt b) := by
  have h1 := hr b (by omega) hb
  unfold dist
  rw [show a + b = (a + b - 1) + 1 by omega]
  rw [dst, if_neg (by omega), if_neg (by omega), dst_any hr (a + b - 1) (a + rt b) a (rt b) (by omega) (by omega) (by omega) (by omega)]
theorem dist_sy {rt ln : Nat → Nat} {n : Nat} (hr : ∀ v, 1 ≤ v → v < n → rt v < v) : ∀ (k a b : Nat), a + b ≤ k → a < n → b < n → dist rt ln a b = dist rt ln b a := by
  intro k
  induction k with
  | zero =>
    intro a b h ha hb
    obtain rfl : a = 0 := by omega
    obtain rfl : b = 0 := by omega
    rfl
  | succ k ih =>
    intro a b h ha hb
    rcases Nat.lt_trichotomy a b with l | l | l
    · have := hr b (by omega) hb
      rw [dist_lt hr hb l, dist_gt hr hb l, ih a (rt b) (by omega) ha (by omega)]
    · rw [l]
    · have := hr a (by omega) ha
      rw [dist_gt hr ha l, dist_lt hr ha l, ih (rt a) b (by omega) (by omega) hb]
theorem dist_sym {rt ln : Nat → Nat} {n : Nat} (hr : ∀ v, 1 ≤ v → v < n → rt v < v) {a b : Nat} (ha : a < n) (hb : b < n) : dist rt ln a b = dist rt ln b a := dist_sy hr (a + b) a b (Nat.le_refl _) ha hb
theorem dist_le' {rt ln : Nat → Nat} {n : Nat} (hr : ∀ v, 1 ≤ v → v < n → rt v < v) (hl : ∀ v, 1 ≤ v → v < n → ln v ≤ 99) : ∀ (k a b : Nat), a + b ≤ k → a < n → b < n → dist rt ln a b ≤ 99 * (a + b) := by
  intro k
  induction k with
  | zero =>
    intro a b h ha hb
    obtain rfl : a = 0 := by omega
    obtain rfl : b = 0 := by omega
    rw [dist_0]
    omega
  | succ k ih =>
    intro a b h ha hb
    rcases Nat.lt_trichotomy a b with l | l | l
    · have h1 := hr b (by omega) hb
      have h2 := hl b (by omega) hb
      have h3 := ih a (rt b) (by omega) ha (by omega)
      rw [dist_lt hr hb l]
      omega
    · rw [l, dist_0]
      omega
    · have h1 := hr a (by omega) ha
      have h2 := hl a (by omega) ha
      have h3 := ih (rt a) b (by omega) (by omega) hb
      rw [dist_gt hr ha l]
      omega
/-- dist looks at roots and lengths up to the greater end alone -/
theorem dst_cg {rt ln rt' ln' : Nat → Nat} {n : Nat} (hr : ∀ v, 1 ≤ v → v < n → rt v < v) (h1 : ∀ v, 1 ≤ v → v < n → rt' v = rt v) (h2 : ∀ v, 1 ≤ v → v < n → ln' v = ln v) : ∀ (f a b : Nat), a < n → b < n → dst rt' ln' f a b = dst rt ln f a b := by
  intro f
  induction f with
  | zero => intro a b _ _; rfl
  | succ f ih =>
    intro a b ha hb
    unfold dst
    by_cases e : a = b
    · rw [if_pos e, if_pos e]
    · rw [if_neg e, if_neg e]
      by_cases l : b < a
      · have := hr a (by omega) ha
        rw [if_pos l, if_pos l, h1 a (by omega) ha, h2 a (by omega) ha, ih (rt a) b (by omega) hb]
      · have := hr b (by omega) hb
        rw [if_neg l, if_neg l, h1 b (by omega) hb, h2 b (by omega) hb, ih a (rt b) ha (by omega)]
theorem dist_cg {rt ln rt' ln' : Nat → Nat} {n : Nat} (hr : ∀ v, 1 ≤ v → v < n → rt v < v) (h1 : ∀ v, 1 ≤ v → v < n → rt' v = rt v) (h2 : ∀ v, 1 ≤ v → v < n → ln' v = ln v) {a b : Nat} (ha : a < n) (hb : b < n) : dist rt' ln' a b = dist rt ln a b := dst_cg hr h1 h2 (a + b) a b ha hb
/-- what both hold of roots and lengths -/
def Tree (n : Nat) (rt ln : Nat → Nat) (R Ls : Nat → Int32) : Prop := n ≤ 60 ∧ ∀ v, 1 ≤ v → v < n → rt v < v ∧ ln v ≤ 99 ∧ R v = nI (rt v) ∧ Ls v = nI (ln v)
theorem Tree.r {n : Nat} {rt ln : Nat → Nat} {R Ls : Nat → Int32} (h : Tree n rt ln R Ls) : ∀ v, 1 ≤ v → v < n → rt v < v := fun v h1 h2 => (h.2 v h1 h2).1
theorem Tree.l {n : Nat} {rt ln : Nat → Nat} {R Ls : Nat → Int32} (h : Tree n rt ln R Ls) : ∀ v, 1 ≤ v → v < n → ln v ≤ 99 := fun v h1 h2 => (h.2 v h1 h2).2.1
theorem Tree.dle {n : Nat} {rt ln : Nat → Nat} {R Ls : Nat → Int32} (h : Tree n rt ln R Ls) {a b : Nat} (ha : a < n) (hb : b < n) : dist rt ln a b ≤ 11682 := by
  have h1 := dist_le' h.r h.l (a + b) a b (Nat.le_refl _) ha hb
  have := h.1
  omega
theorem far_lp {n : Nat} {rt ln : Nat → Nat} {R Ls : Nat → Int32} (h : Tree n rt ln R Ls) : ∀ (f a b s : Nat), a < n → b < n → a + b < f → ∃ x : Int32, lp (fX9_farFrom_L8 R Ls) f (nI a, nI b, nI s) = some (x, x, nI (s + dist rt ln a b)) := by
  have h60 := h.1
  intro f
  induction f with
  | zero => intro a b s ha hb hf; omega
  | succ f ih =>
    intro a b s ha hb hf
    show ∃ x : Int32, fX9_farFrom_L8 R Ls (lp (fX9_farFrom_L8 R Ls) f) (nI a, nI b, nI s) = _
    dsimp only [fX9_farFrom_L8]
    rcases Nat.lt_trichotomy a b with l | l | l
    · obtain ⟨h1, h2, h3, h4⟩ := h.2 b (by omega) hb
      rw [if_neg (by rw [nI_eq (by omega) (by omega)]; omega), if_pos (nI_le (by omega) (by omega)), if_pos (gI_n (by omega) (by decide)), if_pos (gI_n (by omega) (by decide)), nI_clamp (by omega), h3, h4, nI_add, dist_lt h.r hb l, ← Nat.add_assoc]
      exact ih a (rt b) (s + ln b) ha (by omega) (by omega)
    · subst l
      rw [if_pos rfl, dist_0]
      exact ⟨nI a, rfl⟩
    · obtain ⟨h1, h2, h3, h4⟩ := h.2 a (by omega) ha
      rw [if_neg (by rw [nI_eq (by omega) (by omega)]; omega), if_neg (by rw [nI_leI (by omega) (by omega)]; omega), if_pos (gI_n (by omega) (by decide)), if_pos (gI_n (by omega) (by decide)), nI_clamp (by omega), h3, h4, nI_add, dist_gt h.r ha l, ← Nat.add_assoc]
      exact ih (rt a) b (s + ln a) (by omega) hb (by omega)
theorem far_e {n : Nat} {rt ln : Nat → Nat} {R Ls : Nat → Int32} (h : Tree n rt ln R Ls) {a b : Nat} (ha : a < n) (hb : b < n) : fX9_farFrom R Ls (nI a) (nI b) = some (nI (dist rt ln a b)) := by
  have h60 := h.1
  obtain ⟨x, hx⟩ := far_lp h FU a b 0 ha hb (FU_lt (by omega))
  unfold fX9_farFrom
  rw [show (0 : Int32) = nI 0 from rfl, hx, Nat.zero_add]
  rfl
/-- the parts of LandR, by name -/
theorem LandR.treeC {n : Nat} {rt ln : Nat → Nat} {cCnt cOpc : Int32} {cRts cLns cOpn cGps : Nat → Int32} {mVil : Int32} {mRts mLns mOpn : Nat → Int32} (h : LandR n rt ln cCnt cOpc cRts cLns cOpn cGps mVil mRts mLns mOpn) : Tree n rt ln cRts cLns := by
  obtain ⟨h1, h60, hc, hm, hrt, -⟩ := h
  exact ⟨h60, fun v a b => ⟨(hrt v a b).1, (hrt v a b).2.2.2.2.1, (hrt v a b).2.1, (hrt v a b).2.2.2.2.2.1⟩⟩
theorem LandR.treeM {n : Nat} {rt ln : Nat → Nat} {cCnt cOpc : Int32} {cRts cLns cOpn cGps : Nat → Int32} {mVil : Int32} {mRts mLns mOpn : Nat → Int32} (h : LandR n rt ln cCnt cOpc cRts cLns cOpn cGps mVil mRts mLns mOpn) : Tree n rt ln mRts mLns := by
  obtain ⟨h1, h60, hc, hm, hrt, -⟩ := h
  exact ⟨h60, fun v a b => ⟨(hrt v a b).1, (hrt v a b).2.2.2.2.1, (hrt v a b).2.2.1, (hrt v a b).2.2.2.2.2.2⟩⟩
theorem LandR.gap {n : Nat} {rt ln : Nat → Nat} {cCnt cOpc : Int32} {cRts cLns cOpn cGps : Nat → Int32} {mVil : Int32} {mRts mLns mOpn : Nat → Int32} (h : LandR n rt ln cCnt cOpc cRts cLns cOpn cGps mVil mRts mLns mOpn) {u v : Nat} (hu : u < n) (hv : v < n) : fX1_gap cGps (nI u) (nI v) = some (nI (dist rt ln u v)) := by
  obtain ⟨h1, h60, hc, hm, hrt, hr0, hm0, hl0, hop, hoc, hg, hd⟩ := h
  rw [gap_e (by omega) (by omega), hg u v hu hv]

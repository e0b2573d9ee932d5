/-! The line: signs and numbers are put. -/
def LR (c : Int32) (s : Nat → Int32) (m : Int32) (a : Nat → Int32) : Prop := ∃ k : Nat, LineR k c s m a
theorem put_e {c m : Int32} {s a : Nat → Int32} (h : LR c s m a) {x : Nat} (hx : x < 128) : ∃ (c' : Int32) (s' : Nat → Int32) (m' : Int32) (a' : Nat → Int32), fX2_put c s (nI x) = some (c', s') ∧ fX9_putSign m a (nI x) = some (m', a') ∧ LR c' s' m' a' := by
  obtain ⟨k, hk, rfl, rfl, hs⟩ := h
  by_cases q : k < 400
  · have n4 : ¬ (400 : Int32) ≤ nI k := nI_ge (b := 400) q (by decide)
    refine ⟨nI (k + 1), upd s k (nI x), nI (k + 1), upd a k (nI x), ?_, ?_, k + 1, by omega, rfl, rfl, fun i hi => ?_⟩
    · unfold fX2_put
      rw [if_neg n4, if_pos (gI_n q (by decide)), nI_1, nI_clamp (by omega), nar_byte hx]
    · unfold fX9_putSign
      rw [if_neg n4, if_pos (gI_n q (by decide)), nI_1, nI_clamp (by omega)]
    · by_cases e : i = k
      · subst e; exact ⟨x, hx, upd_s, upd_s⟩
      · obtain ⟨y, y1, y2, y3⟩ := hs i (by omega)
        exact ⟨y, y1, by rw [upd_n e, y2], by rw [upd_n e, y3]⟩
  · have n4 : (400 : Int32) ≤ nI k := nI_le (a := 400) (by omega) (by omega)
    refine ⟨nI k, s, nI k, a, ?_, ?_, k, hk, rfl, rfl, hs⟩
    · unfold fX2_put
      rw [if_pos n4]
    · unfold fX9_putSign
      rw [if_pos n4]
theorem gN_n {u : Nat} (h0 : 0 < u) (h : u < 2 ^ 31) : gN (nI u) = true := by
  unfold gN
  rw [decide_eq_false (nI_ne0 h0 h)]
  rfl
theorem p10_le : ∀ e, e < 9 → 10 ^ e ≤ 100000000 ∧ 0 < 10 ^ e := by decide
theorem num_unit {v : Nat} (hv : v < 1000000000) : ∀ (m e u f : Nat), e + m = 8 → u = 10 ^ e → m < f → ∃ e' u', e' ≤ 8 ∧ u' = 10 ^ e' ∧ lp (fX2_putNumber_L4 (nI v)) f (nI u, nI (e + 1)) = some (nI u', nI (e' + 1)) ∧ lp (fX9_putNumber_L2 (nI v)) f (nI u) = some (nI u') := by
  intro m
  induction m with
  | zero =>
    intro e u f he hu hf
    obtain rfl : e = 8 := by omega
    have hu' : u = 100000000 := hu
    cases f with
    | zero => omega
    | succ f =>
      refine ⟨8, u, Nat.le_refl _, hu, ?_, ?_⟩
      · show fX2_putNumber_L4 (nI v) (lp _ f) (nI u, nI (8 + 1)) = _
        dsimp only [fX2_putNumber_L4]
        rw [if_pos (show (9 : Int32) ≤ nI 9 from by decide)]
      · show fX9_putNumber_L2 (nI v) (lp _ f) (nI u) = _
        unfold fX9_putNumber_L2
        rw [if_pos (gN_n (by omega) (by omega)), pk_div (by omega) (by omega) (by omega), if_pos (show nI (v / u) ≤ (9 : Int32) from nI_le (b := 9) (by subst hu'; omega) (by decide))]
  | succ m ih =>
    intro e u f he hu hf
    have hb := p10_le e (by omega)
    rw [← hu] at hb
    have hd : v / u ≤ v := Nat.div_le_self _ _
    cases f with
    | zero => omega
    | succ f =>
      by_cases q : v / u < 10
      · refine ⟨e, u, by omega, hu, ?_, ?_⟩
        · show fX2_putNumber_L4 (nI v) (lp _ f) (nI u, nI (e + 1)) = _
          dsimp only [fX2_putNumber_L4]
          rw [if_neg (show ¬ (9 : Int32) ≤ nI (e + 1) from nI_ge (b := 9) (by omega) (by decide)), if_pos (gN_n (by omega) (by omega)), pk_div (by omega) (by omega) (by omega), if_pos (show nI (v / u) < (10 : Int32) from nI_lt (b := 10) q (by decide))]
        · show fX9_putNumber_L2 (nI v) (lp _ f) (nI u) = _
          unfold fX9_putNumber_L2
          rw [if_pos (gN_n (by omega) (by omega)), pk_div (by omega) (by omega) (by omega), if_pos (show nI (v / u) ≤ (9 : Int32) from nI_le (b := 9) (by omega) (by decide))]
      · obtain ⟨e', u', h1, h2, h3, h4⟩ := ih (e + 1) (u * 10) f (by omega) (by rw [hu, Nat.pow_succ]) (by omega)
        refine ⟨e', u', h1, h2, ?_, ?_⟩
        · show fX2_putNumber_L4 (nI v) (lp _ f) (nI u, nI (e + 1)) = _
          dsimp only [fX2_putNumber_L4]
          rw [if_neg (show ¬ (9 : Int32) ≤ nI (e + 1) from nI_ge (b := 9) (by omega) (by decide)), if_pos (gN_n (by omega) (by omega)), pk_div (by omega) (by omega) (by omega), if_neg (show ¬ nI (v / u) < (10 : Int32) from nI_nlt (b := 10) (by omega) (by omega)), show (10 : Int32) = nI 10 from rfl, pk_mul, nI_1]
          exact h3
        · show fX9_putNumber_L2 (nI v) (lp _ f) (nI u) = _
          unfold fX9_putNumber_L2
          rw [if_pos (gN_n (by omega) (by omega)), pk_div (by omega) (by omega) (by omega), if_neg (show ¬ nI (v / u) ≤ (9 : Int32) from nI_ge (a := 9) (by omega) (by omega)), show (10 : Int32) = nI 10 from rfl, pk_mul]
          exact h4
theorem num_step {v u : Nat} (hv : v < 1000000000) (h0 : 0 < u) (hu : u ≤ 100000000) {c m : Int32} {s a : Nat → Int32} (h : LR c s m a) : ∃ (c' : Int32) (s' : Nat → Int32) (m' : Int32) (a' : Nat → Int32), (∀ k, fX2_putNumber_L31 (nI v) k (nI u, c, s) = k (nI (u / 10), c', s')) ∧ (∀ k, fX9_putNumber_L18 (nI v) k (nI u, m, a) = k (nI (u / 10), m', a')) ∧ LR c' s' m' a' := by
  obtain ⟨c', s', m', a', f1, f2, hR⟩ := put_e h (x := 48 + v / u % 10) (by omega)
  have hd : v / u ≤ v := Nat.div_le_self _ _
  have e : (48 : Int32) + (nI v / nI u - nI v / nI u / 10 * 10) = nI (48 + v / u % 10) := by
    rw [pk_div (by omega) h0 (by omega), show (10 : Int32) = nI 10 from rfl, pk_rem (by omega) (by decide) (by decide), show (48 : Int32) = nI 48 from rfl, nI_add]
  have e10 : nI u / 10 = nI (u / 10) := by
    rw [show (10 : Int32) = nI 10 from rfl, pk_div (by omega) (by decide) (by decide)]
  refine ⟨c', s', m', a', fun k => ?_, fun k => ?_, hR⟩
  · dsimp only [fX2_putNumber_L31]
    rw [if_neg (nI_nle h0 (by omega)), if_pos (gN_n h0 (by omega)), e, f1, bd_s, e10]
  · dsimp only [fX9_putNumber_L18]
    rw [if_neg (nI_nle h0 (by omega)), if_pos (gN_n h0 (by omega)), e, f2, bd_s, e10]
theorem num_out {v : Nat} (hv : v < 1000000000) : ∀ (e u f : Nat) (c m : Int32) (s a : Nat → Int32), u = 10 ^ e → e ≤ 8 → e + 1 < f → LR c s m a → ∃ (c' : Int32) (s' : Nat → Int32) (m' : Int32) (a' : Nat → Int32), lp (fX2_putNumber_L31 (nI v)) f (nI u, c, s) = some (nI 0, c', s') ∧ lp (fX9_putNumber_L18 (nI v)) f (nI u, m, a) = some (nI 0, m', a') ∧ LR c' s' m' a' := by
  intro e
  induction e with
  | zero =>
    intro u f c m s a hu he hf h
    have hu1 : u = 1 := hu
    subst hu1
    obtain ⟨c', s', m', a', f1, f2, hR⟩ := num_step (u := 1) hv (by decide) (by decide) h
    obtain ⟨g, rfl⟩ : ∃ g, f = g + 1 + 1 := ⟨f - 2, by omega⟩
    refine ⟨c', s', m', a', ?_, ?_, hR⟩
    · show fX2_putNumber_L31 (nI v) (lp _ (g + 1)) (nI 1, c, s) = _
      rw [f1]
      show fX2_putNumber_L31 (nI v) (lp _ g) (nI 0, c', s') = _
      dsimp only [fX2_putNumber_L31]
      rw [if_pos (show nI 0 ≤ (0 : Int32) from by decide)]
    · show fX9_putNumber_L18 (nI v) (lp _ (g + 1)) (nI 1, m, a) = _
      rw [f2]
      show fX9_putNumber_L18 (nI v) (lp _ g) (nI 0, m', a') = _
      dsimp only [fX9_putNumber_L18]
      rw [if_pos (show nI 0 ≤ (0 : Int32) from by decide)]
  | succ e ih =>
    intro u f c m s a hu he hf h
    have hb := p10_le (e + 1) (by omega)
    rw [← hu] at hb
    obtain ⟨c', s', m', a', f1, f2, hR⟩ := num_step (u := u) hv hb.2 hb.1 h
    obtain ⟨g, rfl⟩ : ∃ g, f = g + 1 := ⟨f - 1, by omega⟩
    obtain ⟨c2, s2, m2, a2, k1, k2, hR2⟩ := ih (u / 10) g c' m' s' a' (by rw [hu, Nat.pow_succ]; exact Nat.mul_div_cancel _ (by decide)) (by omega) (by omega) hR
    refine ⟨c2, s2, m2, a2, ?_, ?_, hR2⟩
    · show fX2_putNumber_L31 (nI v) (lp _ g) (nI u, c, s) = _
      rw [f1]
      exact k1
    · show fX9_putNumber_L18 (nI v) (lp _ g) (nI u, m, a) = _
      rw [f2]
      exact k2
theorem num_e {c m : Int32} {s a : Nat → Int32} (h : LR c s m a) {v : Nat} (hv : v < 1000000000) : ∃ (c' : Int32) (s' : Nat → Int32) (m' : Int32) (a' : Nat → Int32), fX2_putNumber c s (nI v) = some (c', s') ∧ fX9_putNumber m a (nI v) = some (m', a') ∧ LR c' s' m' a' := by
  obtain ⟨e, u, he, hu, f1, f2⟩ := num_unit hv 8 0 1 FU rfl rfl (FU_lt (by omega))
  obtain ⟨c', s', m', a', g1, g2, hR⟩ := num_out hv e u FU c m s a hu he (FU_lt (by omega)) h
  refine ⟨c', s', m', a', ?_, ?_, hR⟩
  · unfold fX2_putNumber
    rw [show ((1 : Int32), (1 : Int32)) = (nI 1, nI (0 + 1)) from rfl, f1, bd_s]
    dsimp only
    rw [g1]
    rfl
  · unfold fX9_putNumber
    rw [show (1 : Int32) = nI 1 from rfl, f2, bd_s, g2]
    rfl
/-- a way is told -/
theorem wayl_e {n s : Nat} {U U' : Nat → Int32} (h60 : n ≤ 60) (hs : s ≤ 60) (hag : ∀ i, i < s → ag n U U' i) : ∀ (m f i : Nat) (c y : Int32) (g a : Nat → Int32), i + m = s → m < f → LR c g y a → ∃ (c' : Int32) (g' : Nat → Int32) (y' : Int32) (a' : Nat → Int32), lp (fX4_tellWay_L11 (nI s) U) f (nI i, c, g) = some (nI s, c', g') ∧ lp (fX9_sayWay_L18 (nI s) U') f (nI i, y, a) = some (nI s, y', a') ∧ LR c' g' y' a' := by
  intro m
  induction m with
  | zero =>
    intro f i c y g a hi hf h
    obtain rfl : i = s := by omega
    obtain ⟨f, rfl⟩ : ∃ g, f = g + 1 := ⟨f - 1, by omega⟩
    refine ⟨c, g, y, a, ?_, ?_, h⟩
    · show fX4_tellWay_L11 (nI i) U (lp _ f) (nI i, c, g) = _
      dsimp only [fX4_tellWay_L11]
      rw [if_pos (Int32.le_refl _)]
    · show fX9_sayWay_L18 (nI i) U' (lp _ f) (nI i, y, a) = _
      dsimp only [fX9_sayWay_L18]
      rw [if_pos (Int32.le_refl _)]
  | succ m ih =>
    intro f i c y g a hi hf h
    obtain ⟨f, rfl⟩ : ∃ g, f = g + 1 := ⟨f - 1, by omega⟩
    obtain ⟨x, hx, x1, x2⟩ := hag i (by omega)
    have nk : ¬ nI s ≤ nI i := nI_ge (by omega) (by omega)
    have g60 := gI_n (i := i) (n := 60) (by omega) (by decide)
    have cl := nI_clamp (n := i) (by omega)
    by_cases q : i = 0
    · obtain ⟨c1, g1, y1, a1, k1, k2, h1⟩ := num_e h (v := x) (by omega)
      obtain ⟨c2, g2, y2, a2, k3, k4, h2⟩ := ih f (i + 1) c1 y1 g1 a1 (by omega) (by omega) h1
      have q0 : nI i ≤ (0 : Int32) := by rw [q]; decide
      refine ⟨c2, g2, y2, a2, ?_, ?_, h2⟩
      · show fX4_tellWay_L11 (nI s) U (lp _ f) (nI i, c, g) = _
        dsimp only [fX4_tellWay_L11, fX4_tellWay_J35]
        rw [if_neg nk, if_pos q0, if_pos g60, cl, x1, k1, bd_s]
        dsimp only
        rw [nI_1]
        exact k3
      · show fX9_sayWay_L18 (nI s) U' (lp _ f) (nI i, y, a) = _
        dsimp only [fX9_sayWay_L18, fX9_sayWay_J36]
        rw [if_neg nk, if_pos q0, if_pos g60, cl, x2, k2, bd_s]
        dsimp only
        rw [nI_1]
        exact k4
    · obtain ⟨c0, g0, y0, a0, j1, j2, h0⟩ := put_e h (x := 62) (by decide)
      obtain ⟨c1, g1, y1, a1, k1, k2, h1⟩ := num_e h0 (v := x) (by omega)
      obtain ⟨c2, g2, y2, a2, k3, k4, h2⟩ := ih f (i + 1) c1 y1 g1 a1 (by omega) (by omega) h1
      have q0 : ¬ nI i ≤ (0 : Int32) := nI_nle (by omega) (by omega)
      refine ⟨c2, g2, y2, a2, ?_, ?_, h2⟩
      · show fX4_tellWay_L11 (nI s) U (lp _ f) (nI i, c, g) = _
        dsimp only [fX4_tellWay_L11, fX4_tellWay_J35]
        rw [if_neg nk, if_neg q0, show fX2_put c g 62 = _ from j1, bd_s]
        dsimp only
        rw [if_pos g60, cl, x1, k1, bd_s]
        dsimp only
        rw [nI_1]
        exact k3
      · show fX9_sayWay_L18 (nI s) U' (lp _ f) (nI i, y, a) = _
        dsimp only [fX9_sayWay_L18, fX9_sayWay_J36]
        rw [if_neg nk, if_neg q0, show fX9_putSign y a 62 = _ from j2, bd_s]
        dsimp only
        rw [if_pos g60, cl, x2, k2, bd_s]
        dsimp only
        rw [nI_1]
        exact k4
/-- all depots that stand are told -/
def an1 (q : Nat) : Int32 := if q = 0 then 0 else 1
theorem alll_e {n : Nat} {o mo : Nat → Int32} (h60 : n ≤ 60) (ho : ∀ v, v < n → mo v = o v) : ∀ (m f i : Nat) (c y : Int32) (g a : Nat → Int32), i + m = n → m < f → LR c g y a → ∃ (c' : Int32) (g' : Nat → Int32) (y' : Int32) (a' : Nat → Int32), lp (fX4_tellAll_L23 (nI n) o) f (nI (cntO o i), nI i, c, g) = some (nI (cntO o n), nI n, c', g') ∧ lp (fX9_sayAll_L4 (nI n) mo) f (an1 (cntO o i), nI i, y, a) = some (an1 (cntO o n), nI n, y', a') ∧ LR c' g' y' a' := by
  intro m
  induction m with
  | zero =>
    intro f i c y g a hi hf h
    obtain rfl : i = n := by omega
    obtain ⟨f, rfl⟩ : ∃ g, f = g + 1 := ⟨f - 1, by omega⟩
    refine ⟨c, g, y, a, ?_, ?_, h⟩
    · show fX4_tellAll_L23 (nI i) o (lp _ f) (nI (cntO o i), nI i, c, g) = _
      dsimp only [fX4_tellAll_L23]
      rw [if_pos (Int32.le_refl _)]
    · show fX9_sayAll_L4 (nI i) mo (lp _ f) (an1 (cntO o i), nI i, y, a) = _
      dsimp only [fX9_sayAll_L4]
      rw [if_pos (Int32.le_refl _)]
  | succ m ih =>
    intro f i c y g a hi hf h
    obtain ⟨f, rfl⟩ : ∃ g, f = g + 1 := ⟨f - 1, by omega⟩
    have nk : ¬ nI n ≤ nI i := nI_ge (by omega) (by omega)
    have g60 := gI_n (i := i) (n := 60) (by omega) (by decide)
    have cl := nI_clamp (n := i) (by omega)
    have hm := ho i (by omega)
    have hle := cntO_le o i
    by_cases z : o i = 0
    · have e : cntO o (i + 1) = cntO o i := by rw [cntO, if_pos z, Nat.add_zero]
      obtain ⟨c2, g2, y2, a2, k3, k4, h2⟩ := ih f (i + 1) c y g a (by omega) (by omega) h
      rw [e] at k3 k4
      refine ⟨c2, g2, y2, a2, ?_, ?_, h2⟩
      · show fX4_tellAll_L23 (nI n) o (lp _ f) (nI (cntO o i), nI i, c, g) = _
        dsimp only [fX4_tellAll_L23, fX4_tellAll_J70]
        rw [if_neg nk, if_pos g60, cl, if_pos z, nI_1]
        exact k3
      · show fX9_sayAll_L4 (nI n) mo (lp _ f) (an1 (cntO o i), nI i, y, a) = _
        dsimp only [fX9_sayAll_L4, fX9_sayAll_J38]
        rw [if_neg nk, if_pos g60, cl, hm, if_pos z, nI_1]
        exact k4
    · have e : cntO o (i + 1) = cntO o i + 1 := by rw [cntO, if_neg z]
      have ea : an1 (cntO o (i + 1)) = 1 := by rw [e]; rfl
      by_cases q : cntO o i = 0
      · obtain ⟨c1, g1, y1, a1, k1, k2, h1⟩ := num_e h (v := i) (by omega)
        obtain ⟨c2, g2, y2, a2, k3, k4, h2⟩ := ih f (i + 1) c1 y1 g1 a1 (by omega) (by omega) h1
        rw [ea] at k4
        rw [e] at k3
        refine ⟨c2, g2, y2, a2, ?_, ?_, h2⟩
        · show fX4_tellAll_L23 (nI n) o (lp _ f) (nI (cntO o i), nI i, c, g) = _
          dsimp only [fX4_tellAll_L23, fX4_tellAll_J59, fX4_tellAll_J70]
          rw [if_neg nk, if_pos g60, cl, if_neg z, if_pos (show nI (cntO o i) ≤ (0 : Int32) from by rw [q]; decide), k1, bd_s]
          dsimp only
          rw [nI_1, nI_1]
          exact k3
        · show fX9_sayAll_L4 (nI n) mo (lp _ f) (an1 (cntO o i), nI i, y, a) = _
          dsimp only [fX9_sayAll_L4, fX9_sayAll_J31, fX9_sayAll_J38]
          rw [if_neg nk, if_pos g60, cl, hm, if_neg z, if_pos (show an1 (cntO o i) = 0 from by rw [q]; rfl), k2, bd_s]
          dsimp only
          rw [nI_1]
          exact k4
      · obtain ⟨c0, g0, y0, a0, j1, j2, h0⟩ := put_e h (x := 44) (by decide)
        obtain ⟨c1, g1, y1, a1, k1, k2, h1⟩ := num_e h0 (v := i) (by omega)
        obtain ⟨c2, g2, y2, a2, k3, k4, h2⟩ := ih f (i + 1) c1 y1 g1 a1 (by omega) (by omega) h1
        rw [ea] at k4
        rw [e] at k3
        refine ⟨c2, g2, y2, a2, ?_, ?_, h2⟩
        · show fX4_tellAll_L23 (nI n) o (lp _ f) (nI (cntO o i), nI i, c, g) = _
          dsimp only [fX4_tellAll_L23, fX4_tellAll_J59, fX4_tellAll_J70]
          rw [if_neg nk, if_pos g60, cl, if_neg z, if_neg (nI_nle (by omega) (by omega)), show fX2_put c g 44 = _ from j1, bd_s]
          dsimp only
          rw [k1, bd_s]
          dsimp only
          rw [nI_1, nI_1]
          exact k3
        · show fX9_sayAll_L4 (nI n) mo (lp _ f) (an1 (cntO o i), nI i, y, a) = _
          dsimp only [fX9_sayAll_L4, fX9_sayAll_J31, fX9_sayAll_J38]
          rw [if_neg nk, if_pos g60, cl, hm, if_neg z, if_neg (show ¬ an1 (cntO o i) = 0 from by unfold an1; rw [if_neg q]; decide), show fX9_putSign y a 44 = _ from j2, bd_s]
          dsimp only
          rw [k2, bd_s]
          dsimp only
          rw [nI_1]
          exact k4
theorem cntO_z {o : Nat → Int32} : ∀ n, cntO o n = 0 → ∀ v, v < n → o v = 0 := by
  intro n
  induction n with
  | zero => intro _ v hv; omega
  | succ n ih =>
    intro h v hv
    rw [cntO] at h
    by_cases z : o n = 0
    · by_cases q : v = n
      · rw [q]; exact z
      · exact ih (by omega) v (by omega)
    · rw [if_neg z] at h; omega
theorem alln_e {n : Nat} {o : Nat → Int32} (h60 : n ≤ 60) (hz : ∀ v, v < n → o v = 0) (c : Int32) (g : Nat → Int32) : lp (fX4_tellAll_L23 (nI n) o) FU (0, 0, c, g) = some (0, nI n, c, g) := by
  have c1 := lp_for (F := fX4_tellAll_L23 (nI n) o) (fun i (_ : Unit) => ((0 : Int32), nI i, c, g)) (fun _ s => s) (fun _ _ => True) n (fun _ => some (0, nI n, c, g)) (fun k s _ => by
      dsimp only [fX4_tellAll_L23]
      rw [if_pos (Int32.le_refl _)]) (fun k i s hi _ => by
      refine ⟨?_, trivial⟩
      dsimp only [fX4_tellAll_L23, fX4_tellAll_J70]
      rw [if_neg (nI_ge hi (by omega)), if_pos (gI_n (show i < 60 by omega) (by decide)), nI_clamp (by omega), if_pos (hz i hi), nI_1]) n FU 0 () (by omega) (FU_lt (by omega)) trivial
  exact c1.1
theorem allm_e {n : Nat} {o : Nat → Int32} (h60 : n ≤ 60) (hz : ∀ v, v < n → o v = 0) (c : Int32) (g : Nat → Int32) : lp (fX9_sayAll_L4 (nI n) o) FU (0, 0, c, g) = some (0, nI n, c, g) := by
  have c1 := lp_for (F := fX9_sayAll_L4 (nI n) o) (fun i (_ : Unit) => ((0 : Int32), nI i, c, g)) (fun _ s => s) (fun _ _ => True) n (fun _ => some (0, nI n, c, g)) (fun k s _ => by
      dsimp only [fX9_sayAll_L4]
      rw [if_pos (Int32.le_refl _)]) (fun k i s hi _ => by
      refine ⟨?_, trivial⟩
      dsimp only [fX9_sayAll_L4, fX9_sayAll_J38]
      rw [if_neg (nI_ge hi (by omega)), if_pos (gI_n (show i < 60 by omega) (by decide)), nI_clamp (by omega), if_pos (hz i hi), nI_1]) n FU 0 () (by omega) (FU_lt (by omega)) trivial
  exact c1.1
theorem all_e {n : Nat} {o mo : Nat → Int32} (h60 : n ≤ 60) (ho : ∀ v, v < n → mo v = o v) {c y : Int32} {g a : Nat → Int32} (h : LR c g y a) : ∃ (c' : Int32) (g' : Nat → Int32) (y' : Int32) (a' : Nat → Int32), fX4_tellAll (nI n) (nI (cntO o n)) c o g = some (c', g') ∧ fX9_sayAll (nI n) y mo a = some (y', a') ∧ LR c' g' y' a' := by
  have hle := cntO_le o n
  by_cases z : cntO o n = 0
  · have hz := cntO_z n z
    obtain ⟨c0, g0, y0, a0, j1, j2, h0⟩ := put_e h (x := 45) (by decide)
    refine ⟨c0, g0, y0, a0, ?_, ?_, h0⟩
    · unfold fX4_tellAll fX4_tellAll_J19
      rw [if_pos (show nI (cntO o n) = 0 from by rw [z]; rfl), show fX2_put c g 45 = _ from j1, bd_s]
      dsimp only
      rw [alln_e h60 hz]
      rfl
    · unfold fX9_sayAll
      rw [allm_e h60 (fun v hv => by rw [ho v hv]; exact hz v hv), bd_s]
      dsimp only
      rw [if_pos rfl, show fX9_putSign y a 45 = _ from j2]
      rfl
  · obtain ⟨c2, g2, y2, a2, k3, k4, h2⟩ := alll_e h60 ho n FU 0 c y g a (by omega) (FU_lt (by omega)) h
    refine ⟨c2, g2, y2, a2, ?_, ?_, h2⟩
    · unfold fX4_tellAll fX4_tellAll_J19
      rw [if_neg (nI_ne0 (by omega) (by omega)), show lp (fX4_tellAll_L23 (nI n) o) FU ((0 : Int32), (0 : Int32), c, g) = _ from k3]
      rfl
    · unfold fX9_sayAll
      rw [show lp (fX9_sayAll_L4 (nI n) mo) FU ((0 : Int32), (0 : Int32), y, a) = _ from k4, bd_s]
      dsimp only
      rw [if_neg (show ¬ an1 (cntO o n) = 0 from by unfold an1; rw [if_neg z]; decide)]

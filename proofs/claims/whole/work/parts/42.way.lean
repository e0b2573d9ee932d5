/-! Ways. -/
theorem lp_rel {V Z S : Type} {F : (V → Option Z) → V → Option Z} (mk : Nat → S → V) (Inv : Nat → S → Prop) (n : Nat) (E : S → Option Z) (hx : ∀ k s, Inv n s → F k (mk n s) = E s) (hs : ∀ k i s, i < n → Inv i s → ∃ s', F k (mk i s) = k (mk (i + 1) s') ∧ Inv (i + 1) s') :
    ∀ (m f i : Nat) (s : S), i + m = n → m < f → Inv i s → ∃ s', lp F f (mk i s) = E s' ∧ Inv n s' := by
  intro m
  induction m with
  | zero =>
    intro f i s hi hf h
    obtain rfl : i = n := by omega
    cases f with
    | zero => omega
    | succ f => exact ⟨s, hx _ s h, h⟩
  | succ m ih =>
    intro f i s hi hf h
    cases f with
    | zero => omega
    | succ f =>
      obtain ⟨s1, h1, h2⟩ := hs (lp F f) i s (by omega) h
      obtain ⟨s2, h3, h4⟩ := ih f (i + 1) s1 (by omega) (by omega) h2
      exact ⟨s2, by show F (lp F f) (mk i s) = _; rw [h1, h3], h4⟩
/-- both rows hold the same village there -/
def ag (n : Nat) (T T' : Nat → Int32) (i : Nat) : Prop := ∃ x : Nat, x < n ∧ T i = nI x ∧ T' i = nI x
theorem ag_s {n x k : Nat} {T T' : Nat → Int32} (hx : x < n) : ag n (upd T k (nI x)) (upd T' k (nI x)) k := ⟨x, hx, upd_s, upd_s⟩
theorem ag_n {n k i : Nat} {T T' : Nat → Int32} {x y : Int32} (h : ag n T T' i) (e : i ≠ k) : ag n (upd T k x) (upd T' k y) i := by
  obtain ⟨z, h1, h2, h3⟩ := h
  exact ⟨z, h1, by rw [upd_n e, h2], by rw [upd_n e, h3]⟩
theorem way_up {n : Nat} {rt : Nat → Nat} {R M : Nat → Int32} (h60 : n ≤ 60) (hr : ∀ v, 1 ≤ v → v < n → rt v < v ∧ R v = nI (rt v) ∧ M v = nI (rt v)) : ∀ (f a b up dn : Nat) (T T' : Nat → Int32), a < n → b < n → a + b < f → up + dn + a ≤ 59 → up + dn + b ≤ 59 → (∀ i, i < up → ag n T T' i) → (∀ i, 60 - dn ≤ i → i < 60 → ag n T T' i) →
    ∃ (x up' dn' : Nat) (U U' : Nat → Int32), lp (fX6_walk_L12 (nI n) R) f (nI a, nI b, nI up, nI (60 - dn), T) = some (nI x, nI x, nI up', nI (60 - dn'), U) ∧ lp (fX9_findWay_L11 M) f (nI a, nI b, nI up, nI dn, T') = some (nI x, nI x, nI up', nI dn', U') ∧ x < n ∧ up' + dn' ≤ 59 ∧ (∀ i, i < up' → ag n U U' i) ∧ ∀ i, 60 - dn' ≤ i → i < 60 → ag n U U' i := by
  intro f
  induction f with
  | zero => intro a b up dn T T' _ _ h; omega
  | succ f ih =>
    intro a b up dn T T' ha hb hf h1 h2 g1 g2
    have e60 : (60 : Int32) - (nI dn + 1) = nI (60 - (dn + 1)) := by
      rw [nI_1, show (60 : Int32) = nI 60 from rfl, pk_sub (by omega)]
    show ∃ (x up' dn' : Nat) (U U' : Nat → Int32), fX6_walk_L12 (nI n) R (lp (fX6_walk_L12 (nI n) R) f) (nI a, nI b, nI up, nI (60 - dn), T) = _ ∧ fX9_findWay_L11 M (lp (fX9_findWay_L11 M) f) (nI a, nI b, nI up, nI dn, T') = _ ∧ _
    dsimp only [fX6_walk_L12, fX9_findWay_L11]
    rcases Nat.lt_trichotomy a b with l | l | l
    · obtain ⟨q1, q2, q3⟩ := hr b (by omega) hb
      have eb : nI (60 - dn) + (-1) = nI (60 - (dn + 1)) := by
        rw [show 60 - dn = (60 - (dn + 1)) + 1 by omega, pk_m1]
      rw [if_neg (show ¬ nI a = nI b from by rw [nI_eq (by omega) (by omega)]; omega), has_v h60 ha, bd_s, if_neg i1_0, has_v h60 hb, bd_s, if_neg i1_0, nI_1 up, if_neg (show ¬ nI (60 - dn) ≤ nI (up + 1) from nI_ge (by omega) (by omega)), if_pos (show nI a ≤ nI b from nI_le (by omega) (by omega)), eb, if_pos (gI_n (show 60 - (dn + 1) < 60 by omega) (by decide)), if_pos (gI_n (show b < 60 by omega) (by decide)), nI_clamp (show b < 2 ^ 31 by omega), nI_clamp (show 60 - (dn + 1) < 2 ^ 31 by omega), q2]
      rw [if_neg (show ¬ nI a = nI b from by rw [nI_eq (by omega) (by omega)]; omega), if_pos (show nI a ≤ nI b from nI_le (by omega) (by omega)), e60, if_pos (gI_n (show 60 - (dn + 1) < 60 by omega) (by decide)), if_pos (gI_n (show b < 60 by omega) (by decide)), nI_clamp (show 60 - (dn + 1) < 2 ^ 31 by omega), q3, nI_1 dn]
      exact ih a (rt b) up (dn + 1) (upd T (60 - (dn + 1)) (nI b)) (upd T' (60 - (dn + 1)) (nI b)) ha (by omega) (by omega) (by omega) (by omega) (fun i hi => ag_n (g1 i hi) (by omega)) (fun i hi1 hi2 => by
        by_cases q : i = 60 - (dn + 1)
        · rw [q]; exact ag_s hb
        · exact ag_n (g2 i (by omega) hi2) q)
    · subst l
      rw [if_pos rfl, if_pos rfl]
      exact ⟨a, up, dn, T, T', rfl, rfl, ha, by omega, g1, g2⟩
    · obtain ⟨q1, q2, q3⟩ := hr a (by omega) ha
      rw [if_neg (show ¬ nI a = nI b from by rw [nI_eq (by omega) (by omega)]; omega), has_v h60 ha, bd_s, if_neg i1_0, has_v h60 hb, bd_s, if_neg i1_0, nI_1 up, if_neg (show ¬ nI (60 - dn) ≤ nI (up + 1) from nI_ge (by omega) (by omega)), if_neg (show ¬ nI a ≤ nI b from nI_ge (by omega) (by omega)), if_pos (gI_n (show up < 60 by omega) (by decide)), if_pos (gI_n (show a < 60 by omega) (by decide)), nI_clamp (show a < 2 ^ 31 by omega), nI_clamp (show up < 2 ^ 31 by omega), q2]
      rw [if_neg (show ¬ nI a = nI b from by rw [nI_eq (by omega) (by omega)]; omega), if_neg (show ¬ nI a ≤ nI b from nI_ge (by omega) (by omega)), if_pos (gI_n (show up < 60 by omega) (by decide)), if_pos (gI_n (show a < 60 by omega) (by decide)), q3]
      exact ih (rt a) b (up + 1) dn (upd T up (nI a)) (upd T' up (nI a)) (by omega) hb (by omega) (by omega) (by omega) (fun i hi => by
        by_cases q : i = up
        · rw [q]; exact ag_s ha
        · exact ag_n (g1 i (by omega)) q) (fun i hi1 hi2 => ag_n (g2 i hi1 hi2) (by omega))
theorem way_e {n : Nat} {rt : Nat → Nat} {R M : Nat → Int32} (h60 : n ≤ 60) (hr : ∀ v, 1 ≤ v → v < n → rt v < v ∧ R v = nI (rt v) ∧ M v = nI (rt v)) {u v : Nat} (hu : u < n) (hv : v < n) (c c' : Int32) (T T' : Nat → Int32) :
    ∃ (s : Nat) (U U' : Nat → Int32), fX6_walk (nI n) c R T (nI u) (nI v) = some (nI s, U) ∧ fX9_findWay c' M T' (nI u) (nI v) = some (nI s, U') ∧ 1 ≤ s ∧ s ≤ 60 ∧ ∀ i, i < s → ag n U U' i := by
  obtain ⟨x, up, dn, U, U', f1, f2, hx, hs, g1, g2⟩ := way_up h60 hr FU u v 0 0 T T' hu hv (FU_lt (by omega)) (by omega) (by omega) (fun i hi => absurd hi (by omega)) (fun i h1 h2 => absurd h1 (by omega))
  have c1 := lp_rel (F := fX6_walk_L122) (fun k (s : (Nat → Int32) × (Nat → Int32)) => (nI (up + 1 + k), nI (60 - dn + k), s.1)) (fun k s => (∀ i, i < up + 1 + k → ag n s.1 s.2 i) ∧ (∀ i, 60 - dn + k ≤ i → i < 60 → ag n s.1 s.2 i) ∧ ∃ fu, fu + k = FU ∧ lp (fX9_findWay_L82 (nI up) (nI dn)) fu (nI k, s.2) = lp (fX9_findWay_L82 (nI up) (nI dn)) FU (nI 0, upd U' up (nI x))) dn (fun s => some (nI (up + 1 + dn), nI 60, s.1)) (fun k s _ => by
      dsimp only [fX6_walk_L122]
      rw [show 60 - dn + dn = 60 by omega, if_pos (show (60 : Int32) ≤ nI 60 from Int32.le_refl _)]) (fun k i s hi hs => by
      obtain ⟨z1, z2, fu, z3, z4⟩ := hs
      obtain ⟨y, hy, y1, y2⟩ := z2 (60 - dn + i) (Nat.le_refl _) (by omega)
      refine ⟨(upd s.1 (up + 1 + i) (nI y), upd s.2 (up + 1 + i) (nI y)), ?_, fun j hj => ?_, fun j hj1 hj2 => ?_, fu - 1, ?_, ?_⟩
      · dsimp only [fX6_walk_L122]
        rw [if_neg (show ¬ (60 : Int32) ≤ nI (60 - dn + i) from nI_ge (b := 60) (by omega) (by decide)), if_neg (show ¬ nI (60 - dn + i) < nI (up + 1 + i) from nI_nlt (by omega) (by omega)), if_pos (gI_n (by omega) (by decide)), if_pos (gI_n (by omega) (by decide)), nI_clamp (by omega), nI_clamp (by omega), y1, nI_1, nI_1]
        rfl
      · by_cases q : j = up + 1 + i
        · rw [q]; exact ag_s hy
        · exact ag_n (z1 j (by omega)) q
      · exact ag_n (z2 j (by omega) hj2) (by omega)
      · have := FU_lt (n := 900) (Nat.le_refl _); omega
      · rw [← z4]
        have hfu : fu = (fu - 1) + 1 := by have := FU_lt (n := 900) (Nat.le_refl _); omega
        conv => rhs; rw [hfu]
        show _ = fX9_findWay_L82 (nI up) (nI dn) (lp _ (fu - 1)) (nI i, s.2)
        dsimp only [fX9_findWay_L82]
        rw [if_neg (nI_ge hi (by omega)), nI_1 up, nI_add, show (60 : Int32) - nI dn + nI i = nI (60 - dn + i) from by rw [show (60 : Int32) = nI 60 from rfl, pk_sub (by omega), nI_add], if_pos (gI_n (by omega) (by decide)), if_pos (gI_n (by omega) (by decide)), nI_clamp (by omega), nI_clamp (by omega), y2, nI_1]) dn FU 0 (upd U up (nI x), upd U' up (nI x)) (by omega) (FU_lt (by omega)) ⟨fun i hi => by
        by_cases q : i = up
        · rw [q]; exact ag_s hx
        · exact ag_n (g1 i (by omega)) q, fun i h1 h2 => ag_n (g2 i (by omega) h2) (by omega), FU, rfl, rfl⟩
  obtain ⟨⟨W, W'⟩, k1, k2, -, fu, k4, k5⟩ := c1
  refine ⟨up + 1 + dn, W, W', ?_, ?_, by omega, by omega, k2⟩
  · unfold fX6_walk
    rw [show ((nI u, nI v, (0 : Int32), (60 : Int32), T)) = (nI u, nI v, nI 0, nI (60 - 0), T) from rfl, f1, bd_s]
    dsimp only
    rw [if_pos (gI_n (by omega) (by decide)), nI_clamp (by omega), nI_1, show lp fX6_walk_L122 FU (nI (up + 1), nI (60 - dn), upd U up (nI x)) = _ from k1]
    rfl
  · unfold fX9_findWay
    rw [show ((nI u, nI v, (0 : Int32), (0 : Int32), T')) = (nI u, nI v, nI 0, nI 0, T') from rfl, f2, bd_s]
    dsimp only
    rw [if_pos (gI_n (by omega) (by decide)), nI_clamp (by omega), nI_1, nI_add, show (0 : Int32) = nI 0 from rfl, ← k5]
    have hfu : fu = (fu - 1) + 1 := by have := FU_lt (n := 900) (Nat.le_refl _); omega
    rw [hfu]
    show (fX9_findWay_L82 (nI up) (nI dn) (lp _ (fu - 1)) (nI dn, W')).bind _ = _
    dsimp only [fX9_findWay_L82]
    rw [if_pos (Int32.le_refl _)]
    rfl

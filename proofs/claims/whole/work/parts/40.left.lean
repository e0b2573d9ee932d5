/-! Left and more. -/
theorem cntO_0 {o : Nat → Int32} : ∀ n, cntO o n = 0 ↔ ∀ v, v < n → o v = 0 := by
  intro n
  induction n with
  | zero => simp [cntO]
  | succ n ih =>
    rw [cntO]
    constructor
    · intro h v hv
      by_cases q : v = n
      · subst q
        by_cases e : o v = 0
        · exact e
        · rw [if_neg e] at h
          omega
      · exact (ih.mp (by omega)) v (by omega)
    · intro h
      rw [ih.mpr (fun v hv => h v (by omega)), if_pos (h n (by omega))]
/-- how far the nearest is; a million if there is none -/
def dmo (d : Nat → Nat → Nat) (v : Nat) : Option Nat → Nat
  | none => 1000000
  | some b => d v b
/-- the nearest of every village -/
theorem nearAll {n : Nat} {d : Nat → Nat → Nat} {g R Ls o mo : Nat → Int32} (E : EnvD n d g R Ls) (ho : ∀ v, v < n → mo v = o v) : ∃ N : Nat → Option Nat, ∀ v, v < n → fX0_closest (nI n) o g (nI v) = some (enc (N v)) ∧ fX9_nearestOf (nI n) R Ls mo (nI v) = some (enc (N v)) ∧ Near 0 n (fun i => ¬ o i = 0) (d v) (N v) := by
  have h : ∀ v : Nat, ∃ x : Option Nat, v < n → fX0_closest (nI n) o g (nI v) = some (enc x) ∧ fX9_nearestOf (nI n) R Ls mo (nI v) = some (enc x) ∧ Near 0 n (fun i => ¬ o i = 0) (d v) x := by
    intro v
    by_cases hv : v < n
    · obtain ⟨x, hx⟩ := near_e E ho hv
      exact ⟨x, fun _ => hx⟩
    · exact ⟨none, fun q => absurd q hv⟩
  obtain ⟨N, hN⟩ := Classical.axiomOfChoice h
  exact ⟨N, hN⟩
theorem reach_e {n : Nat} {d : Nat → Nat → Nat} {g R Ls o : Nat → Int32} (E : EnvD n d g R Ls) {N : Nat → Option Nat} (hN : ∀ v, v < n → fX0_closest (nI n) o g (nI v) = some (enc (N v)) ∧ Near 0 n (fun i => ¬ o i = 0) (d v) (N v)) (rch : Nat → Int32) : ∃ r', fX0_findReaches (nI n) o g rch = some r' ∧ ∀ v, v < n → r' v = nI (dmo d v (N v)) := by
  obtain ⟨n1, h60, eg, ef, sy, le⟩ := E
  have c1 := lp_for (F := fX0_findReaches_L2 (nI n) o g) (fun i (s : Nat → Int32) => (nI i, s)) (fun i s => upd s i (nI (dmo d i (N i)))) (fun i s => ∀ v, v < i → s v = nI (dmo d v (N v))) n (fun s => some (nI n, s)) (fun k s _ => by
      dsimp only [fX0_findReaches_L2]
      rw [if_pos (Int32.le_refl _)]) (fun k i s hi hs => by
      obtain ⟨q1, q2⟩ := hN i hi
      refine ⟨?_, fun v hv => ?_⟩
      · dsimp only [fX0_findReaches_L2, fX0_findReaches_J43]
        rw [if_neg (nI_ge hi (by omega)), q1, bd_s, if_pos (gI_n (by omega) (by decide)), nI_clamp (by omega), nI_1]
        cases hx : N i with
        | none => rw [if_pos (show enc none = -1 from rfl)]; rfl
        | some b =>
          rw [hx] at q2
          have hb := q2.get.2.1
          rw [if_neg (show ¬ enc (some b) = -1 from nI_nm1 (by omega)), show fX1_gap g (nI i) (enc (some b)) = _ from eg i b hi hb, bd_s, if_pos (gI_n (by omega) (by decide))]
          rfl
      · by_cases q : v = i
        · subst q
          exact upd_s
        · rw [upd_n q]
          exact hs v (by omega)) n FU 0 rch (by omega) (FU_lt (by omega)) (fun v hv => absurd hv (by omega))
  refine ⟨_, ?_, c1.2⟩
  unfold fX0_findReaches
  rw [show (0 : Int32) = nI 0 from rfl, c1.1]
  rfl
def gL (m : Nat → Nat) (i : Nat) (s : Nat × Nat) : Nat × Nat := if m i ≤ s.1 then s else (m i, i)
def mx (m : Nat → Nat) (i : Nat) (s : Nat) : Nat := if s < m i then m i else s
theorem gL_mx (m : Nat → Nat) : ∀ k i s w, (itr (gL m) i k (s, w)).1 = itr (mx m) i k s := by
  intro k
  induction k with
  | zero => intro i s w; rfl
  | succ k ih =>
    intro i s w
    rw [itr, itr]
    unfold gL mx
    by_cases e : m i ≤ s
    · simp only [if_pos e, if_neg (show ¬ s < m i by omega)]
      exact ih (i + 1) s w
    · simp only [if_neg e, if_pos (show s < m i by omega)]
      exact ih (i + 1) (m i) i
theorem itr_cg {S : Type} {g g' : Nat → S → S} : ∀ k i s, (∀ j s, i ≤ j → j < i + k → g' j s = g j s) → itr g' i k s = itr g i k s := by
  intro k
  induction k with
  | zero => intro i s _; rfl
  | succ k ih =>
    intro i s h
    rw [itr, itr, h i s (by omega) (by omega), ih (i + 1) _ (fun j s a b => h j s (by omega) (by omega))]
theorem mx_le (m : Nat → Nat) (c n : Nat) (h : ∀ i, i < n → m i ≤ c) : ∀ k i s, i + k ≤ n → s ≤ c → itr (mx m) i k s ≤ c := by
  intro k
  induction k with
  | zero => intro i s _ hs; exact hs
  | succ k ih =>
    intro i s hi hs
    rw [itr]
    refine ih (i + 1) _ (by omega) ?_
    unfold mx
    have := h i (by omega)
    split <;> omega
theorem gL_lt (m : Nat → Nat) (c n : Nat) (h : ∀ i, i < n → m i ≤ c) : ∀ k i s, i + k ≤ n → s.1 ≤ c → s.2 < n → (itr (gL m) i k s).1 ≤ c ∧ (itr (gL m) i k s).2 < n := by
  intro k
  induction k with
  | zero => intro i s _ h1 h2; exact ⟨h1, h2⟩
  | succ k ih =>
    intro i s hi h1 h2
    rw [itr]
    have := h i (by omega)
    refine ih (i + 1) _ (by omega) ?_ ?_
    · unfold gL
      split <;> omega
    · unfold gL
      split
      · exact h2
      · show i < n
        omega
/-- the reference's findLeft: none is open; or every village has its nearest -/
theorem findLeft_none {n : Nat} (h60 : n ≤ 60) {R Ls mo : Nat → Int32} {lef : Int32} (h : ∀ v, v < n → fX9_nearestOf (nI n) R Ls mo (nI v) = some (-1)) : fX9_findLeft (nI n) lef R Ls mo = some (-1, lef) := by
  have c1 := lp_for (F := fX9_findLeft_L4 (nI n) R Ls mo) (fun i (_ : Unit) => ((-1 : Int32), nI i, lef)) (fun _ s => s) (fun _ _ => True) n (fun _ => some (-1, nI n, lef)) (fun k s _ => by
      dsimp only [fX9_findLeft_L4]
      rw [if_pos (Int32.le_refl _)]) (fun k i s hi _ => by
      refine ⟨?_, trivial⟩
      dsimp only [fX9_findLeft_L4, fX9_findLeft_J33, fX9_findLeft_J50, fX9_findLeft_J65]
      rw [if_neg (nI_ge hi (by omega)), h i hi, bd_s, if_pos rfl, if_pos (Int32.le_refl _), if_pos (Int32.le_refl _), nI_1]) n FU 0 () (by omega) (FU_lt (by omega)) trivial
  unfold fX9_findLeft
  rw [show (0 : Int32) = nI 0 from rfl, c1.1]
  rfl
theorem findLeft_some {n : Nat} {d : Nat → Nat → Nat} {g R Ls mo : Nat → Int32} {lef : Int32} (E : EnvD n d g R Ls) {N : Nat → Option Nat} (hN : ∀ v, v < n → fX9_nearestOf (nI n) R Ls mo (nI v) = some (enc (N v)) ∧ ∃ b, N v = some b ∧ b < n) : fX9_findLeft (nI n) lef R Ls mo = some (nI (itr (gL (fun v => dmo d v (N v))) 1 (n - 1) (dmo d 0 (N 0), 0)).1, nI (itr (gL (fun v => dmo d v (N v))) 1 (n - 1) (dmo d 0 (N 0), 0)).2) := by
  obtain ⟨n1, h60, eg, ef, sy, le⟩ := E
  have hm : ∀ v, v < n → dmo d v (N v) ≤ 11682 := by
    intro v hv
    obtain ⟨-, b, e, hb⟩ := hN v hv
    rw [e]
    exact le v b hv hb
  have body : ∀ (k : Int32 × Int32 × Int32 → Option (Int32 × Int32 × Int32)) (i : Nat) (mo1 lef1 : Int32), i < n → fX9_findLeft_L4 (nI n) R Ls mo k (mo1, nI i, lef1) = (if nI (dmo d i (N i)) ≤ mo1 then k (mo1, nI (i + 1), lef1) else k (nI (dmo d i (N i)), nI (i + 1), nI i)) := by
    intro k i m1 l1 hi
    obtain ⟨q1, b, e, hb⟩ := hN i hi
    dsimp only [fX9_findLeft_L4, fX9_findLeft_J33, fX9_findLeft_J50, fX9_findLeft_J65]
    rw [if_neg (nI_ge hi (by omega)), q1, bd_s, e, if_neg (show ¬ enc (some b) = -1 from nI_nm1 (by omega)), show fX9_farFrom R Ls (enc (some b)) (nI i) = _ from ef b i hb hi, bd_s, sy b i hb hi, nI_1]
    by_cases z : nI (d i b) ≤ m1
    · rw [if_pos z, if_pos z]
      exact (if_pos z).symm
    · rw [if_neg z, if_neg z]
      exact (if_neg z).symm
  have c1 := lp_for (F := fX9_findLeft_L4 (nI n) R Ls mo) (fun i (s : Nat × Nat) => (nI s.1, nI i, nI s.2)) (gL (fun v => dmo d v (N v))) (fun _ s => s.1 ≤ 11682) n (fun s => some (nI s.1, nI n, nI s.2)) (fun k s _ => by
      dsimp only [fX9_findLeft_L4]
      rw [if_pos (Int32.le_refl _)]) (fun k i s hi hs => by
      have hmi := hm i hi
      rw [body k i _ _ hi]
      unfold gL
      by_cases z : dmo d i (N i) ≤ s.1
      · simp only [if_pos z, if_pos (nI_le z (show s.1 < 2 ^ 31 by omega))]
        exact ⟨trivial, hs⟩
      · simp only [if_neg z, if_neg (nI_ge (a := s.1) (b := dmo d i (N i)) (by omega) (by omega))]
        exact ⟨trivial, hmi⟩) (n - 1) 999 1 (dmo d 0 (N 0), 0) (by omega) (by omega) (hm 0 n1)
  unfold fX9_findLeft
  rw [show FU = 999 + 1 from rfl]
  show (fX9_findLeft_L4 (nI n) R Ls mo (lp _ 999) (-1, nI 0, lef)).bind _ = _
  rw [body _ 0 _ _ n1, if_neg (show ¬ nI (dmo d 0 (N 0)) ≤ -1 from by
    rw [le_i, nI_toInt (by have := hm 0 n1; omega), show (-1 : Int32).toInt = -1 by decide]
    omega), show (lp (fX9_findLeft_L4 (nI n) R Ls mo) 999 (nI (dmo d 0 (N 0)), nI (0 + 1), nI 0)) = _ from c1.1]
  rfl

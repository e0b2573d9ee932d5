/-! The text is read: runs of blanks, letters, figures. -/
def TX (t : Nat) (X : Nat → Nat) (B M : Nat → Int32) : Prop := t ≤ 120 ∧ ∀ i, i < t → X i < 128 ∧ B i = nI (X i) ∧ M i = nI (X i)
def RunT (t : Nat) (P : Nat → Prop) (p q : Nat) : Prop := p ≤ q ∧ q ≤ t ∧ (∀ i, p ≤ i → i < q → P i) ∧ (q = t ∨ ¬ P q)
theorem run_ex (t : Nat) (P : Nat → Prop) : ∀ (m p : Nat), p + m = t → ∃ q, RunT t P p q := by
  intro m
  induction m with
  | zero => intro p hp; exact ⟨p, Nat.le_refl _, by omega, fun i h1 h2 => absurd h2 (by omega), Or.inl (by omega)⟩
  | succ m ih =>
    intro p hp
    by_cases h : P p
    · obtain ⟨q, h1, h2, h3, h4⟩ := ih (p + 1) (by omega)
      refine ⟨q, by omega, h2, fun i a b => ?_, h4⟩
      by_cases e : i = p
      · rw [e]; exact h
      · exact h3 i (by omega) b
    · exact ⟨p, Nat.le_refl _, by omega, fun i h1 h2 => absurd h2 (by omega), Or.inr h⟩
theorem RunT.self {t : Nat} {P : Nat → Prop} {p q : Nat} (h : RunT t P p q) : RunT t P q q := ⟨Nat.le_refl _, h.2.1, fun i h1 h2 => absurd h2 (by omega), h.2.2.2⟩
theorem run_at {t : Nat} {P : Nat → Prop} {p : Nat} (hp : p ≤ t) : ∃ q, RunT t P p q := run_ex t P (t - p) p (by omega)
theorem scan_rel {V Z S : Type} {F : (V → Option Z) → V → Option Z} {t : Nat} (mk : Nat → S → V) (P : Nat → Prop) (Inv : Nat → S → Prop) (E : Nat → S → Option Z) (hx : ∀ k i s, Inv i s → i ≤ t → (i = t ∨ ¬ P i) → F k (mk i s) = E i s) (hs : ∀ k i s, Inv i s → i < t → P i → ∃ s', F k (mk i s) = k (mk (i + 1) s') ∧ Inv (i + 1) s') :
    ∀ (m f p q : Nat) (s : S), p + m = q → m < f → RunT t P p q → Inv p s → ∃ s', lp F f (mk p s) = E q s' ∧ Inv q s' := by
  intro m
  induction m with
  | zero =>
    intro f p q s hp hf hR hI
    obtain rfl : p = q := by omega
    cases f with
    | zero => omega
    | succ f => exact ⟨s, hx _ p s hI hR.2.1 hR.2.2.2, hI⟩
  | succ m ih =>
    intro f p q s hp hf hR hI
    cases f with
    | zero => omega
    | succ f =>
      obtain ⟨r1, r2, r3, r4⟩ := hR
      obtain ⟨s1, h1, h2⟩ := hs (lp F f) p s hI (by omega) (r3 p (Nat.le_refl _) (by omega))
      obtain ⟨s2, h3, h4⟩ := ih f (p + 1) q s1 (by omega) (by omega) ⟨by omega, r2, fun i a b => r3 i (by omega) b, r4⟩ h2
      exact ⟨s2, by show F (lp F f) (mk p s) = _; rw [h1, h3], h4⟩
theorem byte_in {t : Nat} {X : Nat → Nat} {B M : Nat → Int32} (hX : TX t X B M) {i : Nat} (hi : i < t) : fX5_byteAt (nI t) B (nI i) = some (nI (X i)) := by
  have h1 := hX.1
  unfold fX5_byteAt
  rw [if_neg (nI_pos (by omega)), if_neg (nI_ge hi (by omega)), if_pos (gI_n (by omega) (by decide)), nI_clamp (by omega), (hX.2 i hi).2.1]
theorem byte_end {t : Nat} {B : Nat → Int32} (h : t ≤ 120) : fX5_byteAt (nI t) B (nI t) = some (-1) := by
  unfold fX5_byteAt
  rw [if_neg (nI_pos (by omega)), if_pos (Int32.le_refl _)]
def Lt (x : Nat) : Prop := 97 ≤ x ∧ x ≤ 122
def Fg (x : Nat) : Prop := 48 ≤ x ∧ x ≤ 57
theorem letC {t : Nat} {X : Nat → Nat} {B M : Nat → Int32} (hX : TX t X B M) {i : Nat} (hi : i < t) : (Lt (X i) → fX5_isLetter (nI t) B (nI i) = some 1) ∧ (¬ Lt (X i) → fX5_isLetter (nI t) B (nI i) = some 0) := by
  have hx := (hX.2 i hi).1
  unfold fX5_isLetter Lt
  rw [byte_in hX hi, bd_s]
  constructor
  · intro h
    rw [if_neg (show ¬ nI (X i) < (97 : Int32) from nI_nlt (b := 97) h.1 (by omega)), if_neg (show ¬ (122 : Int32) < nI (X i) from nI_nlt (a := 122) h.2 (by decide))]
  · intro h
    by_cases q : X i < 97
    · rw [if_pos (show nI (X i) < (97 : Int32) from nI_lt (b := 97) q (by decide))]
    · rw [if_neg (show ¬ nI (X i) < (97 : Int32) from nI_nlt (b := 97) (by omega) (by omega)), if_pos (show (122 : Int32) < nI (X i) from nI_lt (a := 122) (by omega) (by omega))]
theorem figC {t : Nat} {X : Nat → Nat} {B M : Nat → Int32} (hX : TX t X B M) {i : Nat} (hi : i < t) : (Fg (X i) → fX5_isFigure (nI t) B (nI i) = some 1) ∧ (¬ Fg (X i) → fX5_isFigure (nI t) B (nI i) = some 0) := by
  have hx := (hX.2 i hi).1
  unfold fX5_isFigure Fg
  rw [byte_in hX hi, bd_s]
  constructor
  · intro h
    rw [if_neg (show ¬ nI (X i) < (48 : Int32) from nI_nlt (b := 48) h.1 (by omega)), if_neg (show ¬ (57 : Int32) < nI (X i) from nI_nlt (a := 57) h.2 (by decide))]
  · intro h
    by_cases q : X i < 48
    · rw [if_pos (show nI (X i) < (48 : Int32) from nI_lt (b := 48) q (by decide))]
    · rw [if_neg (show ¬ nI (X i) < (48 : Int32) from nI_nlt (b := 48) (by omega) (by omega)), if_pos (show (57 : Int32) < nI (X i) from nI_lt (a := 57) (by omega) (by omega))]
theorem letM {x : Nat} (hx : x < 128) : (Lt x → fX9_isLetter (nI x) = some 1) ∧ (¬ Lt x → fX9_isLetter (nI x) = some 0) := by
  unfold fX9_isLetter Lt
  rw [in_l _ _ _ (show (97 : Int64).toInt = 97 from by decide) (show (122 : Int64).toInt = 122 from by decide), nI_toInt (by omega), bd_s]
  exact ⟨fun h => by rw [if_pos (by omega)], fun h => by rw [if_neg (by omega)]⟩
theorem figM {x : Nat} (hx : x < 128) : (Fg x → fX9_isFigure (nI x) = some 1) ∧ (¬ Fg x → fX9_isFigure (nI x) = some 0) := by
  unfold fX9_isFigure Fg
  rw [in_l _ _ _ (show (48 : Int64).toInt = 48 from by decide) (show (57 : Int64).toInt = 57 from by decide), nI_toInt (by omega), bd_s]
  exact ⟨fun h => by rw [if_pos (by omega)], fun h => by rw [if_neg (by omega)]⟩
abbrev Sk (t : Nat) (X : Nat → Nat) (p q : Nat) : Prop := RunT t (fun i => X i = 32) p q
section READ
variable {t : Nat} {X : Nat → Nat} {B M : Nat → Int32}
theorem e32 {x : Nat} (hx : x < 128) : nI x = (32 : Int32) ↔ x = 32 := nI_eq (b := 32) (by omega) (by decide)
theorem skipC (hX : TX t X B M) {p q : Nat} (h : Sk t X p q) : fX3_skipBlanks (nI t) (nI p) B = some (nI q) := by
  have ht := hX.1
  have hR := h
  obtain ⟨r1, r2, r3, r4⟩ := h
  have c := scan_rel (F := fX3_skipBlanks_L0 (nI t) B) (t := t) (fun i (_ : Unit) => nI i) (fun i => X i = 32) (fun _ _ => True) (fun i _ => some (nI i)) (fun k i s _ hi hp => by
      dsimp only [fX3_skipBlanks_L0]
      by_cases e : i = t
      · rw [e, if_pos (Int32.le_refl _)]
      · have hi' : i < t := by omega
        rw [if_neg (nI_ge hi' (by omega)), byte_in hX hi', bd_s, if_neg (fun q => (hp.resolve_left e) ((e32 (hX.2 i hi').1).mp q))]) (fun k i s _ hi hp => by
      refine ⟨(), ?_, trivial⟩
      dsimp only [fX3_skipBlanks_L0]
      rw [if_neg (nI_ge hi (by omega)), byte_in hX hi, bd_s, if_pos ((e32 (hX.2 i hi).1).mpr hp), nI_1]) (q - p) FU p q () (by omega) (FU_lt (by omega)) hR trivial
  obtain ⟨s0, c, -⟩ := c
  unfold fX3_skipBlanks
  rw [c]
  rfl
theorem skipN (hX : TX t X B M) {p q : Nat} (h : Sk t X p q) : lp (fX9_next_L0 (nI t) M) FU (nI p) = some (nI q) := by
  have ht := hX.1
  have hR := h
  obtain ⟨r1, r2, r3, r4⟩ := h
  have c := scan_rel (F := fX9_next_L0 (nI t) M) (t := t) (fun i (_ : Unit) => nI i) (fun i => X i = 32) (fun _ _ => True) (fun i _ => some (nI i)) (fun k i s _ hi hp => by
      dsimp only [fX9_next_L0]
      by_cases e : i = t
      · rw [e, if_pos (Int32.le_refl _)]
      · have hi' : i < t := by omega
        rw [if_neg (nI_ge hi' (by omega)), if_pos (gI_n (by omega) (by decide)), nI_clamp (by omega), (hX.2 i hi').2.2, if_neg (fun q => (hp.resolve_left e) ((e32 (hX.2 i hi').1).mp q))]) (fun k i s _ hi hp => by
      refine ⟨(), ?_, trivial⟩
      dsimp only [fX9_next_L0]
      rw [if_neg (nI_ge hi (by omega)), if_pos (gI_n (by omega) (by decide)), nI_clamp (by omega), (hX.2 i hi).2.2, if_pos ((e32 (hX.2 i hi).1).mpr hp), nI_1]) (q - p) FU p q () (by omega) (FU_lt (by omega)) hR trivial
  exact c.choose_spec.1
theorem skipI (hX : TX t X B M) {p q : Nat} (h : Sk t X p q) : fX9_isMore (nI t) (nI p) M = some (if q = t then 0 else 1) := by
  have ht := hX.1
  have hR := h
  obtain ⟨r1, r2, r3, r4⟩ := h
  have c := scan_rel (F := fX9_isMore_L5 (nI t) M) (t := t) (fun i (_ : Unit) => nI i) (fun i => X i = 32) (fun _ _ => True) (fun i _ => some (nI i)) (fun k i s _ hi hp => by
      dsimp only [fX9_isMore_L5]
      by_cases e : i = t
      · rw [e, if_pos (Int32.le_refl _)]
      · have hi' : i < t := by omega
        rw [if_neg (nI_ge hi' (by omega)), if_pos (gI_n (by omega) (by decide)), nI_clamp (by omega), (hX.2 i hi').2.2, if_neg (fun q => (hp.resolve_left e) ((e32 (hX.2 i hi').1).mp q))]) (fun k i s _ hi hp => by
      refine ⟨(), ?_, trivial⟩
      dsimp only [fX9_isMore_L5]
      rw [if_neg (nI_ge hi (by omega)), if_pos (gI_n (by omega) (by decide)), nI_clamp (by omega), (hX.2 i hi).2.2, if_pos ((e32 (hX.2 i hi).1).mpr hp), nI_1]) (q - p) FU p q () (by omega) (FU_lt (by omega)) hR trivial
  obtain ⟨s0, c, -⟩ := c
  unfold fX9_isMore
  rw [c, bd_s]
  by_cases e : q = t
  · rw [e, if_pos (Int32.le_refl _), if_pos rfl]
  · rw [if_neg (nI_ge (show q < t by omega) (by omega)), if_neg e]
/-- a run of letters -/
theorem wordC (hX : TX t X B M) {p q : Nat} (h : RunT t (fun i => Lt (X i)) p q) : lp (fX3_readWord_L9 (nI t) B) FU (nI p) = some (nI q) := by
  have ht := hX.1
  have hR := h
  obtain ⟨r1, r2, r3, r4⟩ := h
  have c := scan_rel (F := fX3_readWord_L9 (nI t) B) (t := t) (fun i (_ : Unit) => nI i) (fun i => Lt (X i)) (fun _ _ => True) (fun i _ => some (nI i)) (fun k i s _ hi hp => by
      dsimp only [fX3_readWord_L9]
      by_cases e : i = t
      · rw [e, if_pos (Int32.le_refl _)]
      · have hi' : i < t := by omega
        rw [if_neg (nI_ge hi' (by omega)), (letC hX hi').2 (hp.resolve_left e), bd_s, if_pos rfl]) (fun k i s _ hi hp => by
      refine ⟨(), ?_, trivial⟩
      dsimp only [fX3_readWord_L9]
      rw [if_neg (nI_ge hi (by omega)), (letC hX hi).1 hp, bd_s, if_neg i1_0, nI_1]) (q - p) FU p q () (by omega) (FU_lt (by omega)) hR trivial
  exact c.choose_spec.1
def hs (X : Nat → Nat) (q : Nat) : Nat → Nat
  | 0 => 0
  | n + 1 => 32 * hs X q n + (X (q + n) - 96)
theorem wordM (hX : TX t X B M) {q r : Nat} (h : RunT t (fun i => Lt (X i)) q r) : ∃ v, lp (fX9_next_L87 (nI t) M) FU (0, nI q, 0) = some (nI (r - q), nI r, v) ∧ (r - q ≤ 6 → v = nI (hs X q (r - q))) := by
  have ht := hX.1
  have hR := h
  obtain ⟨r1, r2, r3, r4⟩ := h
  have c := scan_rel (F := fX9_next_L87 (nI t) M) (t := t) (fun i (v : Int32) => (nI (i - q), nI i, v)) (fun i => Lt (X i)) (fun i v => q ≤ i ∧ (i - q ≤ 6 → v = nI (hs X q (i - q)))) (fun i v => some (nI (i - q), nI i, v)) (fun k i s _ hi hp => by
      dsimp only [fX9_next_L87]
      by_cases e : i = t
      · rw [e, if_pos (Int32.le_refl _)]
      · have hi' : i < t := by omega
        rw [if_neg (nI_ge hi' (by omega)), if_pos (gI_n (by omega) (by decide)), nI_clamp (by omega), (hX.2 i hi').2.2, (letM (hX.2 i hi').1).2 (hp.resolve_left e), bd_s, if_pos rfl]) (fun k i s hI hi hp => by
      obtain ⟨i1, i2⟩ := hI
      have hl : Lt (X i) := hp
      unfold Lt at hl
      by_cases z : i - q < 6
      · refine ⟨32 * s + nI (X i) - 96, ?_, by omega, fun _ => ?_⟩
        · dsimp only [fX9_next_L87, fX9_next_J144]
          rw [if_neg (nI_ge hi (by omega)), if_pos (gI_n (by omega) (by decide)), nI_clamp (by omega), (hX.2 i hi).2.2, (letM (hX.2 i hi).1).1 hp, bd_s, if_neg i1_0, if_neg (show ¬ (6 : Int32) ≤ nI (i - q) from nI_ge (b := 6) z (by decide)), if_pos (gI_n (by omega) (by decide)), nI_1, nI_1, show i + 1 - q = i - q + 1 by omega]
        · rw [i2 (by omega), show i + 1 - q = (i - q) + 1 by omega, hs, show q + (i - q) = i by omega, show (32 : Int32) = nI 32 from rfl, pk_mul, nI_add, show (96 : Int32) = nI 96 from rfl, pk_sub (by omega)]
          exact congrArg nI (by omega)
      · refine ⟨0, ?_, by omega, fun z2 => by omega⟩
        dsimp only [fX9_next_L87, fX9_next_J144]
        rw [if_neg (nI_ge hi (by omega)), if_pos (gI_n (by omega) (by decide)), nI_clamp (by omega), (hX.2 i hi).2.2, (letM (hX.2 i hi).1).1 hp, bd_s, if_neg i1_0, if_pos (show (6 : Int32) ≤ nI (i - q) from nI_le (a := 6) (by omega) (by omega)), nI_1, nI_1, show i + 1 - q = i - q + 1 by omega]) (r - q) FU q r 0 (by omega) (FU_lt (by omega)) hR ⟨Nat.le_refl _, fun _ => by rw [Nat.sub_self]; rfl⟩
  obtain ⟨v, c1, -, c2⟩ := c
  rw [Nat.sub_self] at c1
  exact ⟨v, c1, c2⟩
/-- a run of figures -/
def dg (X : Nat → Nat) (q n : Nat) : Nat := if n = 1 then X q - 48 else 10 * (X q - 48) + (X (q + 1) - 48)
theorem numC (hX : TX t X B M) {q r : Nat} (h : RunT t (fun i => Fg (X i)) q r) : ∃ v, lp (fX3_readNumber_L25 (nI t) B) FU (0, nI q) = some (v, nI r) ∧ (r = q + 1 ∨ r = q + 2 → v = nI (dg X q (r - q))) := by
  have ht := hX.1
  have hR := h
  obtain ⟨r1, r2, r3, r4⟩ := h
  have c := scan_rel (F := fX3_readNumber_L25 (nI t) B) (t := t) (fun i (v : Int32) => (v, nI i)) (fun i => Fg (X i)) (fun i v => q ≤ i ∧ (∀ j, q ≤ j → j < i → Fg (X j)) ∧ (i = q → v = nI 0) ∧ (i = q + 1 → v = nI (X q - 48)) ∧ (i = q + 2 → v = nI (10 * (X q - 48) + (X (q + 1) - 48)))) (fun i v => some (v, nI i)) (fun k i s _ hi hp => by
      dsimp only [fX3_readNumber_L25]
      by_cases e : i = t
      · rw [e, if_pos (Int32.le_refl _)]
      · have hi' : i < t := by omega
        rw [if_neg (nI_ge hi' (by omega)), (figC hX hi').2 (hp.resolve_left e), bd_s, if_pos rfl]) (fun k i s hI hi hp => by
      obtain ⟨i1, i5, i2, i3, i4⟩ := hI
      have hl : Fg (X i) := hp
      unfold Fg at hl
      refine ⟨s * 10 + nI (X i) - 48, ?_, by omega, fun j a b => ?_, fun z => by omega, fun z => ?_, fun z => ?_⟩
      · dsimp only [fX3_readNumber_L25]
        rw [if_neg (nI_ge hi (by omega)), (figC hX hi).1 hp, bd_s, if_neg i1_0, byte_in hX hi, bd_s, nI_1]
      · by_cases e : j = i
        · rw [e]; exact hp
        · exact i5 j a (by omega)
      · obtain rfl : i = q := by omega
        rw [i2 rfl, show (10 : Int32) = nI 10 from rfl, pk_mul, nI_add, show (48 : Int32) = nI 48 from rfl, pk_sub (by omega)]
        exact congrArg nI (by omega)
      · obtain rfl : i = q + 1 := by omega
        have hq := i5 q (Nat.le_refl _) (by omega)
        unfold Fg at hq
        rw [i3 rfl, show (10 : Int32) = nI 10 from rfl, pk_mul, nI_add, show (48 : Int32) = nI 48 from rfl, pk_sub (by omega)]
        exact congrArg nI (by omega)) (r - q) FU q r (nI 0) (by omega) (FU_lt (by omega)) hR ⟨Nat.le_refl _, fun j a b => absurd b (by omega), fun _ => rfl, fun z => by omega, fun z => by omega⟩
  obtain ⟨v, c1, -, -, -, c2, c3⟩ := c
  refine ⟨v, c1, fun z => ?_⟩
  unfold dg
  rcases z with z | z
  · rw [if_pos (by omega)]; exact c2 z
  · rw [if_neg (by omega)]; exact c3 z
theorem numM (hX : TX t X B M) {q r : Nat} (h : RunT t (fun i => Fg (X i)) q r) : ∃ n v, lp (fX9_next_L186 (nI t) M) FU (0, nI q, 0) = some (n, nI r, v) ∧ (r = q + 1 ∨ r = q + 2 → v = nI (dg X q (r - q))) ∧ (q + 2 < r → v = nI 1000) := by
  have ht := hX.1
  have hR := h
  obtain ⟨r1, r2, r3, r4⟩ := h
  have c := scan_rel (F := fX9_next_L186 (nI t) M) (t := t) (fun i (v : Int32) => (nI (i - q), nI i, v)) (fun i => Fg (X i)) (fun i v => q ≤ i ∧ (∀ j, q ≤ j → j < i → Fg (X j)) ∧ (i = q → v = nI 0) ∧ (i = q + 1 → v = nI (X q - 48)) ∧ (i = q + 2 → v = nI (10 * (X q - 48) + (X (q + 1) - 48))) ∧ (q + 2 < i → v = nI 1000)) (fun i v => some (nI (i - q), nI i, v)) (fun k i s _ hi hp => by
      dsimp only [fX9_next_L186]
      by_cases e : i = t
      · rw [e, if_pos (Int32.le_refl _)]
      · have hi' : i < t := by omega
        rw [if_neg (nI_ge hi' (by omega)), if_pos (gI_n (by omega) (by decide)), nI_clamp (by omega), (hX.2 i hi').2.2, (figM (hX.2 i hi').1).2 (hp.resolve_left e), bd_s, if_pos rfl]) (fun k i s hI hi hp => by
      obtain ⟨i1, i5, i2, i3, i4, i6⟩ := hI
      have hl : Fg (X i) := hp
      unfold Fg at hl
      have i7 : ∀ j, q ≤ j → j < i + 1 → Fg (X j) := fun j a b => by
        by_cases e : j = i
        · rw [e]; exact hp
        · exact i5 j a (by omega)
      by_cases z : i - q < 2
      · refine ⟨10 * s + nI (X i) - 48, ?_, by omega, i7, fun z => by omega, fun z => ?_, fun z => ?_, fun z => by omega⟩
        · dsimp only [fX9_next_L186, fX9_next_J244]
          rw [if_neg (nI_ge hi (by omega)), if_pos (gI_n (by omega) (by decide)), nI_clamp (by omega), (hX.2 i hi).2.2, (figM (hX.2 i hi).1).1 hp, bd_s, if_neg i1_0, if_neg (show ¬ (2 : Int32) ≤ nI (i - q) from nI_ge (b := 2) z (by decide)), if_pos (gI_n (by omega) (by decide)), nI_1, nI_1, show i + 1 - q = i - q + 1 by omega]
        · obtain rfl : i = q := by omega
          rw [i2 rfl, show (10 : Int32) = nI 10 from rfl, pk_mul, nI_add, show (48 : Int32) = nI 48 from rfl, pk_sub (by omega)]
          exact congrArg nI (by omega)
        · obtain rfl : i = q + 1 := by omega
          have hq := i5 q (Nat.le_refl _) (by omega)
          unfold Fg at hq
          rw [i3 rfl, show (10 : Int32) = nI 10 from rfl, pk_mul, nI_add, show (48 : Int32) = nI 48 from rfl, pk_sub (by omega)]
          exact congrArg nI (by omega)
      · refine ⟨nI 1000, ?_, by omega, i7, fun z => by omega, fun z => by omega, fun z => by omega, fun _ => rfl⟩
        dsimp only [fX9_next_L186, fX9_next_J244]
        rw [if_neg (nI_ge hi (by omega)), if_pos (gI_n (by omega) (by decide)), nI_clamp (by omega), (hX.2 i hi).2.2, (figM (hX.2 i hi).1).1 hp, bd_s, if_neg i1_0, if_pos (show (2 : Int32) ≤ nI (i - q) from nI_le (a := 2) (by omega) (by omega)), nI_1, nI_1, show i + 1 - q = i - q + 1 by omega]
        rfl) (r - q) FU q r (nI 0) (by omega) (FU_lt (by omega)) hR ⟨Nat.le_refl _, fun j a b => absurd b (by omega), fun _ => rfl, fun z => by omega, fun z => by omega, fun z => by omega⟩
  obtain ⟨v, c1, -, -, -, c2, c3, c4⟩ := c
  rw [Nat.sub_self] at c1
  refine ⟨_, v, c1, fun z => ?_, c4⟩
  unfold dg
  rcases z with z | z
  · rw [if_pos (by omega)]; exact c2 z
  · rw [if_neg (by omega)]; exact c3 z
/-- the reference's next token -/
theorem next_end (hX : TX t X B M) {p : Nat} (h : Sk t X p t) (j1 j2 j3 : Int32) : fX9_next (nI t) (nI p) j1 j2 j3 M = some (nI t, nI t, 0, 0) := by
  unfold fX9_next
  rw [skipN hX h, bd_s, if_pos rfl]
theorem next_let (hX : TX t X B M) {p q r : Nat} (h : Sk t X p q) (hq : q < t) (hl : Lt (X q)) (hr : RunT t (fun i => Lt (X i)) q r) (j1 j2 j3 : Int32) : ∃ v, fX9_next (nI t) (nI p) j1 j2 j3 M = some (nI r, nI q, if 7 ≤ r - q then 4 else 1, v) ∧ (r - q ≤ 6 → v = nI (hs X q (r - q))) := by
  have ht := hX.1
  have hrt := hr.2.1
  obtain ⟨v, f1, f2⟩ := wordM hX hr
  refine ⟨v, ?_, f2⟩
  unfold fX9_next fX9_next_J175
  rw [skipN hX h, bd_s, if_neg (by rw [nI_eq (by omega) (by omega)]; omega), if_pos (gI_n (by omega) (by decide)), nI_clamp (by omega), (hX.2 q hq).2.2, (letM (hX.2 q hq).1).1 hl, bd_s, if_neg i1_0, f1, bd_s]
  dsimp only
  by_cases z : 7 ≤ r - q
  · rw [if_pos (show (7 : Int32) ≤ nI (r - q) from nI_le (a := 7) z (by omega)), if_pos z]
  · rw [if_neg (show ¬ (7 : Int32) ≤ nI (r - q) from nI_ge (b := 7) (by omega) (by decide)), if_neg z]
theorem next_fig (hX : TX t X B M) {p q r : Nat} (h : Sk t X p q) (hq : q < t) (hl : Fg (X q)) (hr : RunT t (fun i => Fg (X i)) q r) (j1 j2 j3 : Int32) : ∃ v, fX9_next (nI t) (nI p) j1 j2 j3 M = some (nI r, nI q, 2, v) ∧ (r = q + 1 ∨ r = q + 2 → v = nI (dg X q (r - q))) ∧ (q + 2 < r → v = nI 1000) := by
  have ht := hX.1
  obtain ⟨n, v, f1, f2, f3⟩ := numM hX hr
  refine ⟨v, ?_, f2, f3⟩
  have nl : ¬ Lt (X q) := by unfold Lt; unfold Fg at hl; omega
  unfold fX9_next
  rw [skipN hX h, bd_s, if_neg (by rw [nI_eq (by omega) (by omega)]; omega), if_pos (gI_n (by omega) (by decide)), nI_clamp (by omega), (hX.2 q hq).2.2, (letM (hX.2 q hq).1).2 nl, bd_s, if_pos rfl, (figM (hX.2 q hq).1).1 hl, bd_s, if_neg i1_0, f1, bd_s]
theorem next_oth (hX : TX t X B M) {p q : Nat} (h : Sk t X p q) (hq : q < t) (hl : ¬ Lt (X q)) (hf : ¬ Fg (X q)) (j1 j2 j3 : Int32) : fX9_next (nI t) (nI p) j1 j2 j3 M = some (nI (q + 1), nI q, if X q = 59 then 3 else 4, 0) := by
  have ht := hX.1
  have hx := (hX.2 q hq).1
  unfold fX9_next fX9_next_J281
  rw [skipN hX h, bd_s, if_neg (by rw [nI_eq (by omega) (by omega)]; omega), if_pos (gI_n (by omega) (by decide)), nI_clamp (by omega), (hX.2 q hq).2.2, (letM hx).2 hl, bd_s, if_pos rfl, (figM hx).2 hf, bd_s, if_pos rfl, nI_1]
  by_cases e : X q = 59
  · rw [if_pos (show nI (X q) = (59 : Int32) from by rw [e]; rfl), if_pos e]
  · rw [if_neg (show ¬ nI (X q) = (59 : Int32) from fun z => e ((nI_eq (b := 59) (by omega) (by decide)).mp z)), if_neg e]
end READ

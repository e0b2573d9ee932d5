/-! Words: the class compares signs, the reference compares a number made of them. -/
def lnW (k : Nat) : Nat := lenS.getD k 0
def byN (k i : Nat) : Nat := ((bytS.getD k []).getD i 0).toNatClampNeg
theorem slen_n (k : Nat) : slen k = nI (lnW k) := rfl
theorem schr_n : ∀ k, k < 10 → ∀ i, i < 6 → i < lnW k → schr k (nI i) = nI (byN k i) ∧ byN k i < 128 := by decide +kernel
theorem lnW_b : ∀ k, k < 10 → 3 ≤ lnW k ∧ lnW k ≤ 6 := by decide +kernel
theorem spell_n : ∀ k, k < 10 → fX7_spelling (nI k) = some k := by decide +kernel
/-- word k stands from q to before r -/
def mw (X : Nat → Nat) (q r k : Nat) : Prop := r = q + lnW k ∧ ∀ i, i < lnW k → X (q + i) = byN k i
section WORD
variable {t : Nat} {X : Nat → Nat} {B M : Nat → Int32}
theorem isWord_lp (hX : TX t X B M) {q k : Nat} (hk : k < 10) (hr : q + lnW k ≤ t) : ∀ (m f i : Nat), i + m = lnW k → m < f → ((∀ j, i ≤ j → j < lnW k → X (q + j) = byN k j) → lp (fX5_isWord_L15 (nI t) B (nI q) k) f (nI i) = some 1) ∧ (¬ (∀ j, i ≤ j → j < lnW k → X (q + j) = byN k j) → lp (fX5_isWord_L15 (nI t) B (nI q) k) f (nI i) = some 0) := by
  have hl := lnW_b k hk
  have ht := hX.1
  intro m
  induction m with
  | zero =>
    intro f i hi hf
    obtain ⟨f, rfl⟩ : ∃ g, f = g + 1 := ⟨f - 1, by omega⟩
    refine ⟨fun _ => ?_, fun h => absurd (fun j a b => by omega) h⟩
    show fX5_isWord_L15 (nI t) B (nI q) k (lp _ f) (nI i) = _
    unfold fX5_isWord_L15
    rw [slen_n, if_pos (nI_le (by omega) (by omega))]
  | succ m ih =>
    intro f i hi hf
    obtain ⟨f, rfl⟩ : ∃ g, f = g + 1 := ⟨f - 1, by omega⟩
    obtain ⟨h1, h2⟩ := ih f (i + 1) (by omega) (by omega)
    obtain ⟨s1, s2⟩ := schr_n k hk i (by omega) (by omega)
    have hx := (hX.2 (q + i) (by omega)).1
    have e0 : lp (fX5_isWord_L15 (nI t) B (nI q) k) (f + 1) (nI i) = if nI (X (q + i)) = nI (byN k i) then lp (fX5_isWord_L15 (nI t) B (nI q) k) f (nI (i + 1)) else some 0 := by
      show fX5_isWord_L15 (nI t) B (nI q) k (lp _ f) (nI i) = _
      conv => lhs; unfold fX5_isWord_L15
      rw [slen_n, if_neg (nI_ge (by omega) (by omega)), nI_add, byte_in hX (show q + i < t by omega), bd_s, if_pos (gI_n (show i < lenS.getD k 0 from by show i < lnW k; omega) (by show lnW k < 2 ^ 31; omega)), s1, nI_1]
      all_goals rfl
    rw [e0]
    by_cases e : X (q + i) = byN k i
    · rw [if_pos (by rw [e])]
      refine ⟨fun h => h1 (fun j a b => h j (by omega) b), fun h => h2 (fun h' => h (fun j a b => ?_))⟩
      by_cases z : j = i
      · rw [z]; exact e
      · exact h' j (by omega) b
    · rw [if_neg (by rw [nI_eq (by omega) (by omega)]; exact e)]
      exact ⟨fun h => absurd (h i (Nat.le_refl _) (by omega)) e, fun _ => rfl⟩
theorem isWord_e (hX : TX t X B M) {q r k : Nat} (hk : k < 10) (hq : q ≤ r) (hr : r ≤ t) : (mw X q r k → fX5_isWord (nI t) B (nI q) (nI r) k = some 1) ∧ (¬ mw X q r k → fX5_isWord (nI t) B (nI q) (nI r) k = some 0) := by
  have hl := lnW_b k hk
  have ht := hX.1
  unfold fX5_isWord mw
  rw [pk_sub hq, slen_n]
  by_cases e : r = q + lnW k
  · rw [if_pos (by rw [e, Nat.add_sub_cancel_left])]
    obtain ⟨h1, h2⟩ := isWord_lp (q := q) hX hk (by omega) (lnW k) FU 0 (by omega) (FU_lt (by omega))
    exact ⟨fun h => h1 (fun j _ b => h.2 j b), fun h => h2 (fun h' => h ⟨e, fun i hi => h' i (Nat.zero_le _) hi⟩)⟩
  · rw [if_neg (by rw [nI_eq (by omega) (by omega)]; omega)]
    exact ⟨fun h => absurd h.1 e, fun _ => rfl⟩
theorem find_lp (hX : TX t X B M) {q r : Nat} (hq : q ≤ r) (hr : r ≤ t) : ∀ (m f k : Nat), k + m = 10 → m < f → (∃ w, w < 10 ∧ mw X q r w ∧ lp (fX7_find_L2 (nI t) B (nI q) (nI r)) f (nI k) = some (nI w)) ∨ ((∀ j, k ≤ j → j < 10 → ¬ mw X q r j) ∧ lp (fX7_find_L2 (nI t) B (nI q) (nI r)) f (nI k) = some (-1)) := by
  intro m
  induction m with
  | zero =>
    intro f k hk hf
    obtain ⟨f, rfl⟩ : ∃ g, f = g + 1 := ⟨f - 1, by omega⟩
    obtain rfl : k = 10 := by omega
    exact Or.inr ⟨fun j a b => by omega, rfl⟩
  | succ m ih =>
    intro f k hk hf
    obtain ⟨f, rfl⟩ : ∃ g, f = g + 1 := ⟨f - 1, by omega⟩
    obtain ⟨h1, h2⟩ := isWord_e hX (k := k) (by omega) hq hr
    by_cases e : mw X q r k
    · refine Or.inl ⟨k, by omega, e, ?_⟩
      show fX7_find_L2 (nI t) B (nI q) (nI r) (lp _ f) (nI k) = _
      unfold fX7_find_L2
      rw [if_neg (show ¬ (10 : Int32) ≤ nI k from nI_ge (b := 10) (by omega) (by decide)), spell_n k (by omega), bd_s, h1 e, bd_s, if_neg i1_0]
    · have e0 : lp (fX7_find_L2 (nI t) B (nI q) (nI r)) (f + 1) (nI k) = lp (fX7_find_L2 (nI t) B (nI q) (nI r)) f (nI (k + 1)) := by
        show fX7_find_L2 (nI t) B (nI q) (nI r) (lp _ f) (nI k) = _
        conv => lhs; unfold fX7_find_L2
        rw [if_neg (show ¬ (10 : Int32) ≤ nI k from nI_ge (b := 10) (by omega) (by decide)), spell_n k (by omega), bd_s, h2 e, bd_s, if_pos rfl, nI_1]
        all_goals rfl
      rw [e0]
      rcases ih f (k + 1) (by omega) (by omega) with h | ⟨h3, h4⟩
      · exact Or.inl h
      · refine Or.inr ⟨fun j a b => ?_, h4⟩
        by_cases z : j = k
        · rw [z]; exact e
        · exact h3 j (by omega) b
theorem find_e (hX : TX t X B M) {q r : Nat} (hq : q ≤ r) (hr : r ≤ t) : (∃ w, w < 10 ∧ mw X q r w ∧ fX7_find (nI t) B (nI q) (nI r) = some (nI w)) ∨ ((∀ j, j < 10 → ¬ mw X q r j) ∧ fX7_find (nI t) B (nI q) (nI r) = some (-1)) := by
  rcases find_lp hX hq hr 10 FU 0 (by omega) (FU_lt (by omega)) with h | ⟨h3, h4⟩
  · exact Or.inl h
  · exact Or.inr ⟨fun j b => h3 j (Nat.zero_le _) b, h4⟩
end WORD
theorem hs_lt {X : Nat → Nat} {q n : Nat} (hn : n ≤ 6) (hl : ∀ i, i < n → Lt (X (q + i))) : hs X q n < 1073741824 := by
  have h : ∀ k, k ≤ n → hs X q k < 32 ^ k := by
    intro k
    induction k with
    | zero => intro _; exact Nat.one_pos
    | succ k ih =>
      intro hk
      have h1 := ih (by omega)
      have h2 := hl k (by omega)
      unfold Lt at h2
      rw [hs, Nat.pow_succ]
      omega
  have h1 := h n (Nat.le_refl _)
  have h2 : 32 ^ n ≤ 32 ^ 6 := Nat.pow_le_pow_right (by decide) hn
  have h3 : 32 ^ 6 = 1073741824 := by decide +kernel
  omega
/-- the number's figures, read back -/
def hd (l : List Nat) : Nat → Nat
  | 0 => 0
  | n + 1 => 32 * hd l n + (l.getD n 0 - 96)
theorem hs_inj {X : Nat → Nat} {q : Nat} {l : List Nat} : ∀ n m, (∀ i, i < n → Lt (X (q + i))) → (∀ i, i < m → Lt (l.getD i 0)) → hs X q n = hd l m → n = m ∧ ∀ i, i < n → X (q + i) = l.getD i 0 := by
  intro n
  induction n with
  | zero =>
    intro m h1 h2 h
    cases m with
    | zero => exact ⟨rfl, fun i hi => by omega⟩
    | succ m =>
      have := h2 m (by omega)
      unfold Lt at this
      rw [hs, hd] at h
      omega
  | succ n ih =>
    intro m h1 h2 h
    have a1 := h1 n (by omega)
    unfold Lt at a1
    cases m with
    | zero =>
      rw [hs, hd] at h
      omega
    | succ m =>
      have a2 := h2 m (by omega)
      unfold Lt at a2
      rw [hs, hd] at h
      have e1 : hs X q n = hd l m := by omega
      have e2 : X (q + n) = l.getD m 0 := by omega
      obtain ⟨k1, k2⟩ := ih m (fun i hi => h1 i (by omega)) (fun i hi => h2 i (by omega)) e1
      refine ⟨by omega, fun i hi => ?_⟩
      by_cases z : i = n
      · rw [z, e2, k1]
      · exact k2 i (by omega)
def wl (k : Nat) : List Nat := (List.range (lnW k)).map (byN k)
theorem wl_wcd : ∀ k, k < 10 → hd (wl k) (lnW k) = wcd k := by decide +kernel
theorem wl_lt : ∀ k, k < 10 → ∀ i, i < 6 → i < lnW k → (97 ≤ (wl k).getD i 0 ∧ (wl k).getD i 0 ≤ 122) ∧ (wl k).getD i 0 = byN k i := by decide +kernel
theorem hs_eq {X : Nat → Nat} {q : Nat} {l : List Nat} : ∀ n, (∀ i, i < n → X (q + i) = l.getD i 0) → hs X q n = hd l n := by
  intro n
  induction n with
  | zero => intro _; rfl
  | succ n ih => intro h; rw [hs, hd, ih (fun i hi => h i (by omega)), h n (by omega)]
theorem hs_w {X : Nat → Nat} {q r w : Nat} (hw : w < 10) (h : mw X q r w) : hs X q (r - q) = wcd w := by
  have hb := lnW_b w hw
  obtain ⟨h1, h2⟩ := h
  rw [h1, Nat.add_sub_cancel_left, ← wl_wcd w hw]
  exact hs_eq _ (fun i hi => by rw [h2 i hi, (wl_lt w hw i (by omega) hi).2])
theorem hs_wcd {X : Nat → Nat} {q r w : Nat} (hq : q ≤ r) (hw : w < 10) (hl : ∀ i, i < r - q → Lt (X (q + i))) (h : hs X q (r - q) = wcd w) : mw X q r w := by
  have hb := lnW_b w hw
  rw [← wl_wcd w hw] at h
  obtain ⟨k1, k2⟩ := hs_inj (r - q) (lnW w) hl (fun i hi => (wl_lt w hw i (by omega) hi).1) h
  refine ⟨by omega, fun i hi => ?_⟩
  rw [k2 i (by omega), (wl_lt w hw i (by omega) hi).2]
def manyW (w : Nat) : Nat := [2, 1, 1, 2, 1, 2, 2, 2, 0, 1].getD w 0
theorem many_w : ∀ w, w < 10 → fX9_manyOf (nI (wcd w)) = some (nI (manyW w)) := by decide +kernel
theorem many_n {h : Nat} (hb : h < 1073741824) (hn : ∀ w, w < 10 → h ≠ wcd w) : fX9_manyOf (nI h) = some (-1) := by
  have k : ∀ w, w < 10 → ¬ nI h = nI (wcd w) := fun w hw => by
    have : wcd w < 1073741824 := (show ∀ w, w < 10 → wcd w < 1073741824 by decide) w hw
    rw [nI_eq (by omega) (by omega)]
    exact hn w hw
  unfold fX9_manyOf
  rw [if_neg (show ¬ nI h = (1156 : Int32) from k 0 (by decide)), if_neg (show ¬ nI h = (1420 : Int32) from k 8 (by decide)), if_neg (show ¬ nI h = (6194 : Int32) from k 5 (by decide)), if_neg (show ¬ nI h = (20141 : Int32) from k 9 (by decide)), if_neg (show ¬ nI h = (23609 : Int32) from k 6 (by decide)), if_neg (show ¬ nI h = (463922 : Int32) from k 4 (by decide)), if_neg (show ¬ nI h = (508078 : Int32) from k 1 (by decide)), if_neg (show ¬ nI h = (605220 : Int32) from k 3 (by decide)), if_neg (show ¬ nI h = (631476 : Int32) from k 2 (by decide)), if_neg (show ¬ nI h = (781852974 : Int32) from k 7 (by decide))]

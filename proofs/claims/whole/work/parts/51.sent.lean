/-! A sentence is read: the class and the reference find the same fault, or the same word and numbers. -/
def ok1 (w th x : Nat) : Prop := (w = 3 → 1 ≤ x) ∧ x < th
def ok2 (w th x : Nat) : Prop := ((w = 0 ∨ w = 3) → 1 ≤ x ∧ x ≤ 99) ∧ (w = 7 → x ≤ 99) ∧ ((w = 5 ∨ w = 6) → x < th)
theorem need1_e : ∀ w, w < 10 → fX7_firstNeed (nI w) = some (tF w) := by decide +kernel
theorem need2_e : ∀ w, w < 10 → fX7_secondNeed (nI w) = some (tS w) := by decide +kernel
theorem tF_e : ∀ w, w < 10 → w ≠ 8 → w ≠ 3 → tF w = 1 := by decide +kernel
theorem wcd3 : ∀ w, w < 10 → w ≠ 3 → ¬ nI (wcd w) = (605220 : Int32) := by decide +kernel
theorem wcd0 : ∀ w, w < 10 → w ≠ 0 → ¬ nI (wcd w) = (1156 : Int32) := by decide +kernel
theorem wcd7 : ∀ w, w < 10 → w ≠ 7 → ¬ nI (wcd w) = (781852974 : Int32) := by decide +kernel
theorem suits1 {w x th : Nat} (hw : w < 10) (h8 : w ≠ 8) (hx : x ≤ 99) (hth : th ≤ 60) : (ok1 w th x → fX7_suits (tF w) (nI x) (nI th) = some 1) ∧ (¬ ok1 w th x → fX7_suits (tF w) (nI x) (nI th) = some 0) := by
  unfold ok1
  by_cases e : w = 3
  · subst e
    rw [show tF 3 = 2 from rfl]
    unfold fX7_suits
    rw [if_neg (show ¬ (2 : Int32) = 1 from by decide), if_pos (show (2 : Int32) = 2 from rfl)]
    by_cases z : x = 0
    · rw [if_pos (show nI x ≤ (0 : Int32) from by rw [z]; decide)]
      exact ⟨fun h => absurd (h.1 rfl) (by omega), fun _ => rfl⟩
    · rw [if_neg (nI_nle (by omega) (by omega))]
      by_cases y : x < th
      · rw [if_neg (nI_ge y (by omega))]
        exact ⟨fun _ => rfl, fun h => absurd ⟨fun _ => by omega, y⟩ h⟩
      · rw [if_pos (nI_le (by omega) (by omega))]
        exact ⟨fun h => absurd h.2 y, fun _ => rfl⟩
  · rw [tF_e w hw h8 e]
    unfold fX7_suits
    rw [if_pos (show (1 : Int32) = 1 from rfl)]
    by_cases y : x < th
    · rw [if_neg (nI_ge y (by omega))]
      exact ⟨fun _ => rfl, fun h => absurd ⟨fun q => absurd q e, y⟩ h⟩
    · rw [if_pos (nI_le (by omega) (by omega))]
      exact ⟨fun h => absurd h.2 y, fun _ => rfl⟩
theorem suits2 {w x th : Nat} (h2 : two w) (hx : x ≤ 99) (hth : th ≤ 60) : (ok2 w th x → fX7_suits (tS w) (nI x) (nI th) = some 1) ∧ (¬ ok2 w th x → fX7_suits (tS w) (nI x) (nI th) = some 0) := by
  have q1 : fX7_suits 3 (nI x) (nI th) = some (if 1 ≤ x ∧ x ≤ 99 then 1 else 0) := by
    unfold fX7_suits
    rw [if_neg (show ¬ (3 : Int32) = 1 from by decide), if_neg (show ¬ (3 : Int32) = 2 from by decide), if_pos (show (3 : Int32) = 3 from rfl), len_e, bd_s, nI_toInt (by omega)]
    by_cases z : 1 ≤ x ∧ x ≤ 99
    · rw [if_pos z, if_pos (by omega)]
    · rw [if_neg z, if_neg (by omega)]
  have q2 : (x < th → fX7_suits 1 (nI x) (nI th) = some 1) ∧ (¬ x < th → fX7_suits 1 (nI x) (nI th) = some 0) := by
    unfold fX7_suits
    rw [if_pos (show (1 : Int32) = 1 from rfl)]
    exact ⟨fun y => by rw [if_neg (nI_ge y (by omega))], fun y => by rw [if_pos (nI_le (by omega) (by omega))]⟩
  have q3 : fX7_suits 4 (nI x) (nI th) = some 1 := by
    unfold fX7_suits
    rw [if_neg (show ¬ (4 : Int32) = 1 from by decide), if_neg (show ¬ (4 : Int32) = 2 from by decide), if_neg (show ¬ (4 : Int32) = 3 from by decide), if_neg (show ¬ (99 : Int32) < nI x from nI_nlt (a := 99) hx (by decide))]
  unfold ok2
  rcases h2 with rfl | rfl | rfl | rfl | rfl
  · rw [show tS 0 = 3 from rfl, q1]
    exact ⟨fun h => by rw [if_pos (h.1 (Or.inl rfl))], fun h => by rw [if_neg (fun z => h ⟨fun _ => z, fun z => by omega, fun z => by omega⟩)]⟩
  · rw [show tS 3 = 3 from rfl, q1]
    exact ⟨fun h => by rw [if_pos (h.1 (Or.inr rfl))], fun h => by rw [if_neg (fun z => h ⟨fun _ => z, fun z => by omega, fun z => by omega⟩)]⟩
  · rw [show tS 5 = 1 from rfl]
    exact ⟨fun h => q2.1 (h.2.2 (Or.inl rfl)), fun h => q2.2 (fun z => h ⟨fun z => by omega, fun z => by omega, fun _ => z⟩)⟩
  · rw [show tS 6 = 1 from rfl]
    exact ⟨fun h => q2.1 (h.2.2 (Or.inr rfl)), fun h => q2.2 (fun z => h ⟨fun z => by omega, fun z => by omega, fun _ => z⟩)⟩
  · rw [show tS 7 = 4 from rfl]
    exact ⟨fun h => q3, fun h => absurd ⟨fun z => by omega, fun _ => hx, fun z => by omega⟩ h⟩
theorem th1 {th : Nat} (h1 : 1 ≤ th) (h60 : th ≤ 60) : (nI th - 1).toInt64.toInt = (th : Int) - 1 := by
  rw [w_i]
  exact pk_sub_toInt (a := th) (b := 1) (by omega) (by decide)
theorem may1 {w x th : Nat} (hw : w < 10) (hx : x ≤ 1000) (h1 : 1 ≤ th) (h60 : th ≤ 60) : (ok1 w th x → fX9_mayBe (nI (wcd w)) (nI th) (nI 0) (nI x) = some 1) ∧ (¬ ok1 w th x → fX9_mayBe (nI (wcd w)) (nI th) (nI 0) (nI x) = some 0) := by
  have e1' : (1 : Int64).toInt = 1 := by decide
  have e0' : (0 : Int64).toInt = 0 := by decide
  unfold fX9_mayBe ok1 fX9_mayBe_J20
  rw [if_pos (show nI 0 = (0 : Int32) from rfl), in_l _ _ _ e1' (th1 h1 h60), in_l _ _ _ e0' (th1 h1 h60), nI_toInt (by omega), bd_s, bd_s]
  by_cases e : w = 3
  · rw [if_pos (show nI (wcd w) = (605220 : Int32) from by rw [e]; rfl)]
    exact ⟨fun h => by rw [if_pos (by have := h.1 e; omega)], fun h => by rw [if_neg (fun z => h ⟨fun _ => by omega, by omega⟩)]⟩
  · rw [if_neg (wcd3 w hw e)]
    exact ⟨fun h => by rw [if_pos (by omega)], fun h => by rw [if_neg (fun z => h ⟨fun q => absurd q e, by omega⟩)]⟩
theorem may2 {w x th : Nat} (hw : w < 10) (h2 : two w) (hx : x ≤ 1000) (h1 : 1 ≤ th) (h60 : th ≤ 60) : (ok2 w th x → fX9_mayBe (nI (wcd w)) (nI th) (nI 1) (nI x) = some 1) ∧ (¬ ok2 w th x → fX9_mayBe (nI (wcd w)) (nI th) (nI 1) (nI x) = some 0) := by
  have e1' : (1 : Int64).toInt = 1 := by decide
  have e0' : (0 : Int64).toInt = 0 := by decide
  have e9' : (99 : Int64).toInt = 99 := by decide
  unfold fX9_mayBe ok2 fX9_mayBe_J50
  rw [if_neg (show ¬ nI 1 = (0 : Int32) from by decide), in_l _ _ _ e1' e9', in_l _ _ _ e0' e9', in_l _ _ _ e0' (th1 h1 h60), nI_toInt (by omega), bd_s, bd_s, bd_s]
  rcases h2 with rfl | rfl | rfl | rfl | rfl
  · rw [if_pos (show nI (wcd 0) = (1156 : Int32) from rfl)]
    exact ⟨fun h => by rw [if_pos (by have := h.1 (Or.inl rfl); omega)], fun h => by rw [if_neg (fun z => h ⟨fun _ => by omega, fun z => by omega, fun z => by omega⟩)]⟩
  · rw [if_neg (wcd0 3 hw (by decide)), if_pos (show nI (wcd 3) = (605220 : Int32) from rfl)]
    exact ⟨fun h => by rw [if_pos (by have := h.1 (Or.inr rfl); omega)], fun h => by rw [if_neg (fun z => h ⟨fun _ => by omega, fun z => by omega, fun z => by omega⟩)]⟩
  · rw [if_neg (wcd0 5 hw (by decide)), if_neg (wcd3 5 hw (by decide)), if_neg (wcd7 5 hw (by decide))]
    exact ⟨fun h => by rw [if_pos (by have := h.2.2 (Or.inl rfl); omega)], fun h => by rw [if_neg (fun z => h ⟨fun z => by omega, fun z => by omega, fun _ => by omega⟩)]⟩
  · rw [if_neg (wcd0 6 hw (by decide)), if_neg (wcd3 6 hw (by decide)), if_neg (wcd7 6 hw (by decide))]
    exact ⟨fun h => by rw [if_pos (by have := h.2.2 (Or.inr rfl); omega)], fun h => by rw [if_neg (fun z => h ⟨fun z => by omega, fun z => by omega, fun _ => by omega⟩)]⟩
  · rw [if_neg (wcd0 7 hw (by decide)), if_neg (wcd3 7 hw (by decide)), if_pos (show nI (wcd 7) = (781852974 : Int32) from rfl)]
    exact ⟨fun h => by rw [if_pos (by have := h.2.1 rfl; omega)], fun h => by rw [if_neg (fun z => h ⟨fun z => by omega, fun _ => by omega, fun z => by omega⟩)]⟩
section SENT
variable {t : Nat} {X : Nat → Nat} {B M : Nat → Int32}
/-- a number is read -/
theorem numb_e (hX : TX t X B M) {p q th : Nat} (h : Sk t X p q) (need : Int32) (hn : ¬ need = 0) (ok : Nat → Prop) (h1000 : ¬ ok 1000) (hc : ∀ x, x ≤ 99 → (ok x → fX7_suits need (nI x) (nI th) = some 1) ∧ (¬ ok x → fX7_suits need (nI x) (nI th) = some 0)) :
    (∃ v p', p' ≤ t ∧ fX3_readNumber (nI t) (nI p) (-1) (nI th) B need = some (v, nI p', nI q) ∧ ∀ j1 j2 j3, ∃ s k v, fX9_next (nI t) (nI p) j1 j2 j3 M = some (s, nI q, k, v) ∧ (k = 2 → ∃ x, x ≤ 1000 ∧ ¬ ok x ∧ v = nI x)) ∨
    (∃ x r, ok x ∧ x ≤ 99 ∧ q < r ∧ r ≤ t ∧ fX3_readNumber (nI t) (nI p) (-1) (nI th) B need = some (nI x, nI r, -1) ∧ ∀ j1 j2 j3, fX9_next (nI t) (nI p) j1 j2 j3 M = some (nI r, nI q, 2, nI x)) := by
  have ht := hX.1
  obtain ⟨r, hr⟩ := run_at (t := t) (P := fun i => Fg (X i)) (p := q) h.2.1
  obtain ⟨v, f1, f2⟩ := numC hX hr
  have hqr := hr.1
  have hrt := hr.2.1
  have n42 : ¬ (4 : Int32) = 2 := by decide
  have n12 : ¬ (1 : Int32) = 2 := by decide
  have n32 : ¬ (3 : Int32) = 2 := by decide
  have n02 : ¬ (0 : Int32) = 2 := by decide
  have e0 : fX3_readNumber (nI t) (nI p) (-1) (nI th) B need = if nI (r - q) < (1 : Int32) then some (v, nI r, nI q) else if (2 : Int32) < nI (r - q) then some (v, nI r, nI q) else (fX7_suits need v (nI th)).bind fun r_6 => if r_6 = 0 then some (v, nI r, nI q) else some (v, nI r, -1) := by
    unfold fX3_readNumber fX3_readNumber_J118
    rw [if_pos (show (-1 : Int32) = -1 from rfl), if_neg hn, skipC hX h, bd_s, f1, bd_s]
    dsimp only
    rw [pk_sub hqr]
  rcases (show r = q ∨ (r = q + 1 ∨ r = q + 2) ∨ q + 2 < r by omega) with z | z | z
  · refine Or.inl ⟨v, r, hrt, ?_, fun j1 j2 j3 => ?_⟩
    · rw [e0, if_pos (show nI (r - q) < (1 : Int32) from nI_lt (b := 1) (by omega) (by decide))]
    · by_cases e : q = t
      · subst e
        exact ⟨_, _, _, next_end hX h j1 j2 j3, fun k => absurd k n02⟩
      · have hq : q < t := by have := h.2.1; omega
        have hf : ¬ Fg (X q) := by
          have := hr.2.2.2
          rw [z] at this
          exact this.resolve_left e
        by_cases l : Lt (X q)
        · obtain ⟨r', hr'⟩ := run_at (t := t) (P := fun i => Lt (X i)) (p := q) h.2.1
          obtain ⟨v', g1, -⟩ := next_let hX h hq l hr' j1 j2 j3
          refine ⟨_, _, _, g1, fun k => ?_⟩
          by_cases y : 7 ≤ r' - q
          · rw [if_pos y] at k; exact absurd k n42
          · rw [if_neg y] at k; exact absurd k n12
        · refine ⟨_, _, _, next_oth hX h hq l hf j1 j2 j3, fun k => ?_⟩
          by_cases y : X q = 59
          · rw [if_pos y] at k; exact absurd k n32
          · rw [if_neg y] at k; exact absurd k n42
  · have hq : q < t := by omega
    have hf : Fg (X q) := hr.2.2.1 q (Nat.le_refl _) (by omega)
    have hd : dg X q (r - q) ≤ 99 := by
      have hf' := hf
      unfold Fg at hf'
      unfold dg
      rcases z with z | z
      · rw [if_pos (by omega)]; omega
      · have hf2 : Fg (X (q + 1)) := hr.2.2.1 (q + 1) (by omega) (by omega)
        unfold Fg at hf2
        rw [if_neg (by omega)]; omega
    have hv := f2 z
    subst hv
    rw [if_neg (show ¬ nI (r - q) < (1 : Int32) from nI_nlt (b := 1) (by omega) (by omega)), if_neg (show ¬ (2 : Int32) < nI (r - q) from nI_nlt (a := 2) (by omega) (by decide))] at e0
    by_cases o : ok (dg X q (r - q))
    · refine Or.inr ⟨dg X q (r - q), r, o, hd, by omega, hrt, ?_, fun j1 j2 j3 => ?_⟩
      · rw [e0, (hc _ hd).1 o, bd_s, if_neg i1_0]
      · obtain ⟨v', g1, g2, -⟩ := next_fig hX h hq hf hr j1 j2 j3
        rw [g1, g2 z]
    · refine Or.inl ⟨_, r, hrt, by rw [e0, (hc _ hd).2 o, bd_s, if_pos rfl], fun j1 j2 j3 => ?_⟩
      obtain ⟨v', g1, g2, -⟩ := next_fig hX h hq hf hr j1 j2 j3
      exact ⟨_, _, _, g1, fun _ => ⟨dg X q (r - q), by omega, o, g2 z⟩⟩
  · have hq : q < t := by omega
    have hf : Fg (X q) := hr.2.2.1 q (Nat.le_refl _) (by omega)
    refine Or.inl ⟨v, r, hrt, ?_, fun j1 j2 j3 => ?_⟩
    · rw [e0, if_neg (show ¬ nI (r - q) < (1 : Int32) from nI_nlt (b := 1) (by omega) (by omega)), if_pos (show (2 : Int32) < nI (r - q) from nI_lt (a := 2) (by omega) (by omega))]
    · obtain ⟨v', g1, -, g2⟩ := next_fig hX h hq hf hr j1 j2 j3
      exact ⟨_, _, _, g1, fun _ => ⟨1000, by omega, h1000, g2 z⟩⟩
/-- the sign behind a sentence -/
theorem end_e (hX : TX t X B M) {p q : Nat} (h : Sk t X p q) :
    (q < t ∧ fX3_readEnd (nI t) (nI p) (-1) B = some (nI (q + 1), -1) ∧ ∀ j1 j2 j3, fX9_next (nI t) (nI p) j1 j2 j3 M = some (nI (q + 1), nI q, 3, 0)) ∨
    (fX3_readEnd (nI t) (nI p) (-1) B = some (nI q, nI q) ∧ ∀ j1 j2 j3, ∃ s k v, fX9_next (nI t) (nI p) j1 j2 j3 M = some (s, nI q, k, v) ∧ ¬ k = 3) := by
  have ht := hX.1
  have hqt := h.2.1
  have n43 : ¬ (4 : Int32) = 3 := by decide
  have n13 : ¬ (1 : Int32) = 3 := by decide
  have n23 : ¬ (2 : Int32) = 3 := by decide
  have n03 : ¬ (0 : Int32) = 3 := by decide
  by_cases e : q = t
  · subst e
    refine Or.inr ⟨?_, fun j1 j2 j3 => ⟨_, _, _, next_end hX h j1 j2 j3, n03⟩⟩
    unfold fX3_readEnd
    rw [if_pos (show (-1 : Int32) = -1 from rfl), skipC hX h, bd_s, byte_end ht, bd_s, if_neg (by decide)]
  · have hq : q < t := by omega
    have hx := (hX.2 q hq).1
    have e0 : fX3_readEnd (nI t) (nI p) (-1) B = if nI (X q) = (59 : Int32) then some (nI (q + 1), -1) else some (nI q, nI q) := by
      unfold fX3_readEnd
      rw [if_pos (show (-1 : Int32) = -1 from rfl), skipC hX h, bd_s, byte_in hX hq, bd_s, nI_1]
    by_cases y : X q = 59
    · refine Or.inl ⟨hq, by rw [e0, if_pos (by rw [y]; rfl)], fun j1 j2 j3 => ?_⟩
      rw [next_oth hX h hq (by rw [y]; unfold Lt; omega) (by rw [y]; unfold Fg; omega) j1 j2 j3, if_pos y]
    · refine Or.inr ⟨by rw [e0, if_neg (show ¬ nI (X q) = (59 : Int32) from fun z => y ((nI_eq (b := 59) (by omega) (by decide)).mp z))], fun j1 j2 j3 => ?_⟩
      by_cases l : Lt (X q)
      · obtain ⟨r', hr'⟩ := run_at (t := t) (P := fun i => Lt (X i)) (p := q) h.2.1
        obtain ⟨v', g1, -⟩ := next_let hX h hq l hr' j1 j2 j3
        refine ⟨_, _, _, g1, fun k => ?_⟩
        by_cases y : 7 ≤ r' - q
        · rw [if_pos y] at k; exact absurd k n43
        · rw [if_neg y] at k; exact absurd k n13
      · by_cases f : Fg (X q)
        · obtain ⟨r', hr'⟩ := run_at (t := t) (P := fun i => Fg (X i)) (p := q) h.2.1
          obtain ⟨v', g1, -⟩ := next_fig hX h hq f hr' j1 j2 j3
          exact ⟨_, _, _, g1, n23⟩
        · refine ⟨_, _, _, next_oth hX h hq l f j1 j2 j3, fun k => ?_⟩
          rw [if_neg y] at k; exact absurd k n43
/-- a word is read -/
theorem word_e (hX : TX t X B M) {q th : Nat} (hq : q ≤ t) (h60 : th ≤ 60) :
    (∃ w' p', (w' = -1 ∨ w' = 0) ∧ p' ≤ t ∧ (∀ p, Sk t X p q → fX3_readWord (nI t) (nI p) (-1) (nI th) B = some (w', nI p', nI q)) ∧ ∀ p, Sk t X p q → ∀ j1 j2 j3 j4 N, ∃ s k v o g N', fX9_isSentence (nI t) (nI p) j1 j2 j3 j4 (nI th) M N = some (0, s, nI q, k, v, o, g, N')) ∨
    (∃ w r, w < 10 ∧ (w = 0 → th < 60) ∧ q + 3 ≤ r ∧ r ≤ t ∧ (∀ p, Sk t X p q → fX3_readWord (nI t) (nI p) (-1) (nI th) B = some (nI w, nI r, -1)) ∧ ∀ p, Sk t X p q → ∀ j1 j2 j3 j4 N, fX9_isSentence (nI t) (nI p) j1 j2 j3 j4 (nI th) M N = fX9_isSentence_J58 (nI t) (nI th) M N (nI r) (nI q) 1 (nI (wcd w)) (nI (manyW w))) := by
  have ht := hX.1
  obtain ⟨r, hr⟩ := run_at (t := t) (P := fun i => Lt (X i)) (p := q) hq
  have hqr := hr.1
  have hrt := hr.2.1
  have e0 : ∀ p, Sk t X p q → fX3_readWord (nI t) (nI p) (-1) (nI th) B = (fX7_find (nI t) B (nI q) (nI r)).bind fun r_4 => (if r_4 = (-1 : Int32) then some (r_4, nI r, nI q) else (if r_4 = 0 then (if nI th < (60 : Int32) then some (r_4, nI r, -1) else some (r_4, nI r, nI q)) else some (r_4, nI r, -1))) := by
    intro p h
    unfold fX3_readWord fX3_readWord_J81
    rw [skipC hX h, bd_s, wordC hX hr, bd_s]
  have nof : ∀ s k v o p (N : Nat → Int32), ¬ k = (1 : Int32) → (∀ j1 j2 j3, fX9_next (nI t) (nI p) j1 j2 j3 M = some (s, nI q, k, v)) → ∀ j1 j2 j3, fX9_isSentence (nI t) (nI p) j1 j2 j3 o (nI th) M N = some (0, s, nI q, k, v, v, nI th, N) := by
    intro s k v o p N hk hn j1 j2 j3
    unfold fX9_isSentence fX9_isSentence_J31
    rw [hn, bd_s]
    dsimp only
    rw [if_neg hk, if_pos rfl]
  by_cases a : q < t ∧ Lt (X q)
  · obtain ⟨hqt, hl⟩ := a
    have hlt : q < r := by
      rcases Nat.lt_or_ge q r with z | z
      · exact z
      · have e : r = q := by omega
        have := hr.2.2.2
        rw [e] at this
        rcases this with y | y
        · omega
        · exact absurd hl y
    by_cases z : 7 ≤ r - q
    · -- too long
      have hnone : ∀ j, j < 10 → ¬ mw X q r j := fun j hj hm => by have := lnW_b j hj; have := hm.1; omega
      have hfind : fX7_find (nI t) B (nI q) (nI r) = some (-1) := by
        rcases find_e hX hqr hrt with ⟨w, w1, w2, -⟩ | ⟨-, k⟩
        · exact absurd w2 (hnone w w1)
        · exact k
      refine Or.inl ⟨-1, r, Or.inl rfl, hrt, fun p h => by rw [e0 p h, hfind, bd_s, if_pos rfl], fun p h j1 j2 j3 j4 N => ?_⟩
      obtain ⟨v, g1, -⟩ := next_let hX h hqt hl hr j1 j2 j3
      rw [if_pos z] at g1
      refine ⟨nI r, 4, v, v, nI th, N, ?_⟩
      unfold fX9_isSentence fX9_isSentence_J31
      rw [g1, bd_s]
      dsimp only
      rw [if_neg (show ¬ (4 : Int32) = 1 from by decide), if_pos rfl]
    · have hls : ∀ i, i < r - q → Lt (X (q + i)) := fun i hi => hr.2.2.1 (q + i) (by omega) (by omega)
      have hH := hs_lt (X := X) (q := q) (n := r - q) (by omega) hls
      have hnx : ∀ p, Sk t X p q → ∀ j1 j2 j3, fX9_next (nI t) (nI p) j1 j2 j3 M = some (nI r, nI q, 1, nI (hs X q (r - q))) := by
        intro p h j1 j2 j3
        obtain ⟨v, g1, g2⟩ := next_let hX h hqt hl hr j1 j2 j3
        rw [g1, if_neg z, g2 (by omega)]
      rcases find_e hX hqr hrt with ⟨w, w1, w2, k⟩ | ⟨hno, k⟩
      · have hc := hs_w w1 w2
        have hlw := lnW_b w w1
        have hwr := w2.1
        have nm : ¬ nI w = (-1 : Int32) := nI_nm1 (by omega)
        have nmm : ¬ nI (manyW w) = (-1 : Int32) := nI_nm1 (by have := (show ∀ w, w < 10 → manyW w < 3 by decide) w w1; omega)
        have e1 : ∀ p, Sk t X p q → ∀ j1 j2 j3 j4 N, fX9_isSentence (nI t) (nI p) j1 j2 j3 j4 (nI th) M N = if nI (wcd w) = (1156 : Int32) then (if nI th = (60 : Int32) then some (0, nI r, nI q, 1, nI (wcd w), nI (wcd w), nI th, N) else fX9_isSentence_J58 (nI t) (nI th) M N (nI r) (nI q) 1 (nI (wcd w)) (nI (manyW w))) else fX9_isSentence_J58 (nI t) (nI th) M N (nI r) (nI q) 1 (nI (wcd w)) (nI (manyW w)) := by
          intro p h j1 j2 j3 j4 N
          unfold fX9_isSentence fX9_isSentence_J31
          rw [hnx p h, bd_s]
          dsimp only
          rw [if_pos rfl, hc, many_w w w1, bd_s, if_neg nmm]
        by_cases b : w = 0
        · by_cases c : th < 60
          · refine Or.inr ⟨w, r, w1, fun _ => c, by omega, hrt, fun p h => ?_, fun p h j1 j2 j3 j4 N => ?_⟩
            · rw [e0 p h, k, bd_s, if_neg nm, if_pos (by rw [b]; rfl), if_pos (show nI th < (60 : Int32) from nI_lt (b := 60) c (by decide))]
            · rw [e1 p h, if_pos (by rw [b]; rfl), if_neg (show ¬ nI th = (60 : Int32) from fun z => by have := (nI_eq (b := 60) (by omega) (by decide)).mp z; omega)]
          · have c' : th = 60 := by omega
            refine Or.inl ⟨0, r, Or.inr rfl, hrt, fun p h => ?_, fun p h j1 j2 j3 j4 N => ⟨nI r, 1, nI (wcd w), nI (wcd w), nI th, N, ?_⟩⟩
            · rw [e0 p h, k, bd_s, if_neg nm, if_pos (by rw [b]; rfl), if_neg (show ¬ nI th < (60 : Int32) from nI_nlt (b := 60) (by omega) (by omega)), b]
              rfl
            · rw [e1 p h, if_pos (by rw [b]; rfl), if_pos (by rw [c']; rfl)]
        · refine Or.inr ⟨w, r, w1, fun y => absurd y b, by omega, hrt, fun p h => ?_, fun p h j1 j2 j3 j4 N => ?_⟩
          · rw [e0 p h, k, bd_s, if_neg nm, if_neg (nI_ne0 (by omega) (by omega))]
          · rw [e1 p h, if_neg (wcd0 w w1 b)]
      · have hm := many_n hH (fun w hw e => hno w hw (hs_wcd hqr hw hls e))
        refine Or.inl ⟨-1, r, Or.inl rfl, hrt, fun p h => by rw [e0 p h, k, bd_s, if_pos rfl], fun p h j1 j2 j3 j4 N => ⟨nI r, 1, nI (hs X q (r - q)), nI (hs X q (r - q)), nI th, N, ?_⟩⟩
        unfold fX9_isSentence fX9_isSentence_J31
        rw [hnx p h, bd_s]
        dsimp only
        rw [if_pos rfl, hm, bd_s, if_pos rfl]
  · have e : r = q := by
      rcases Nat.lt_or_ge q r with z | z
      · exact absurd ⟨by omega, hr.2.2.1 q (Nat.le_refl _) z⟩ a
      · omega
    have hfind : fX7_find (nI t) B (nI q) (nI r) = some (-1) := by
      rcases find_e hX hqr hrt with ⟨w, w1, w2, -⟩ | ⟨-, k⟩
      · have := lnW_b w w1
        have := w2.1
        omega
      · exact k
    refine Or.inl ⟨-1, r, Or.inl rfl, hrt, fun p h => by rw [e0 p h, hfind, bd_s, if_pos rfl], fun p h j1 j2 j3 j4 N => ?_⟩
    by_cases c : q = t
    · subst c
      exact ⟨_, _, _, _, _, _, nof _ _ _ j4 p N (by decide) (fun j1 j2 j3 => next_end hX h j1 j2 j3) j1 j2 j3⟩
    · have hqt : q < t := by omega
      have nl : ¬ Lt (X q) := fun y => a ⟨hqt, y⟩
      by_cases f : Fg (X q)
      · obtain ⟨r', hr'⟩ := run_at (t := t) (P := fun i => Fg (X i)) (p := q) hq
        obtain ⟨v', g1, -⟩ := next_fig hX h hqt f hr' j1 j2 j3
        refine ⟨nI r', 2, v', v', nI th, N, ?_⟩
        unfold fX9_isSentence fX9_isSentence_J31
        rw [g1, bd_s]
        dsimp only
        rw [if_neg (show ¬ (2 : Int32) = 1 from by decide), if_pos rfl]
      · refine ⟨_, _, _, _, _, _, nof _ _ _ j4 p N ?_ (fun j1 j2 j3 => next_oth hX h hqt nl f j1 j2 j3) j1 j2 j3⟩
        by_cases y : X q = 59
        · rw [if_pos y]; decide
        · rw [if_neg y]; decide
end SENT

/-! ===== two ways of searching the smallest set ===== -/
theorem firstN_spec (p : Nat → Bool) (k n : Nat) : (firstN p k n = -9 ∧ ∀ j, k ≤ j → j < k + n → p j = false) ∨ (∃ j, k ≤ j ∧ j < k + n ∧ firstN p k n = (j : Int) ∧ p j = true ∧ ∀ i, k ≤ i → i < j → p i = false) := by
  induction n generalizing k with
  | zero => exact Or.inl ⟨rfl, fun j h1 h2 => by omega⟩
  | succ n ih =>
    simp only [firstN]
    by_cases c : p k = true
    · rw [if_pos c]
      exact Or.inr ⟨k, Nat.le_refl k, by omega, rfl, c, fun i h1 h2 => by omega⟩
    · rw [if_neg c]
      have c' : p k = false := Bool.eq_false_iff.mpr c
      rcases ih (k + 1) with ⟨h1, h2⟩ | ⟨j, h1, h2, h3, h4, h5⟩
      · refine Or.inl ⟨h1, fun j q1 q2 => ?_⟩
        rcases Nat.eq_or_lt_of_le q1 with e | e
        · rw [← e]; exact c'
        · exact h2 j (by omega) (by omega)
      · refine Or.inr ⟨j, by omega, by omega, h3, h4, fun i q1 q2 => ?_⟩
        rcases Nat.eq_or_lt_of_le q1 with e | e
        · rw [← e]; exact c'
        · exact h5 i (by omega) q2
theorem scan2_spec (f : Nat → Int) (k n : Nat) : (scan2 f k n = -9 ∧ ∀ j, k ≤ j → j < k + n → f j = -9) ∨ (∃ j, k ≤ j ∧ j < k + n ∧ scan2 f k n = f j ∧ f j ≠ -9 ∧ ∀ i, k ≤ i → i < j → f i = -9) := by
  induction n generalizing k with
  | zero => exact Or.inl ⟨rfl, fun j h1 h2 => by omega⟩
  | succ n ih =>
    simp only [scan2]
    by_cases c : f k = -9
    · rw [if_pos c]
      rcases ih (k + 1) with ⟨h1, h2⟩ | ⟨j, h1, h2, h3, h4, h5⟩
      · refine Or.inl ⟨h1, fun j q1 q2 => ?_⟩
        rcases Nat.eq_or_lt_of_le q1 with e | e
        · rw [← e]; exact c
        · exact h2 j (by omega) (by omega)
      · refine Or.inr ⟨j, by omega, by omega, h3, h4, fun i q1 q2 => ?_⟩
        rcases Nat.eq_or_lt_of_le q1 with e | e
        · rw [← e]; exact c
        · exact h5 i (by omega) q2
    · rw [if_neg c]
      exact Or.inr ⟨k, Nat.le_refl k, by omega, rfl, c, fun i h1 h2 => by omega⟩
/-- the first of the smallest sets among the first n -/
def bestN (p : Nat → Bool) : Nat → Int
  | 0 => -9
  | n + 1 => if p n = true ∧ (bestN p n < 0 ∨ pop8 n < pop8 (bestN p n).toNat) then (n : Int) else bestN p n
theorem bestN_spec (p : Nat → Bool) (n : Nat) : (bestN p n = -9 ∧ ∀ j, j < n → p j = false) ∨ (∃ j, j < n ∧ bestN p n = (j : Int) ∧ p j = true ∧ (∀ i, i < n → p i = true → pop8 j ≤ pop8 i) ∧ ∀ i, i < j → p i = true → pop8 j < pop8 i) := by
  induction n with
  | zero => exact Or.inl ⟨rfl, fun j h => by omega⟩
  | succ n ih =>
    simp only [bestN]
    rcases ih with ⟨h1, h2⟩ | ⟨j, h1, h2, h3, h4, h5⟩
    · by_cases c : p n = true
      · rw [if_pos ⟨c, Or.inl (by omega)⟩]
        refine Or.inr ⟨n, by omega, rfl, c, fun i q1 q2 => ?_, fun i q1 q2 => ?_⟩
        · rcases Nat.lt_or_ge i n with e | e
          · rw [h2 i e] at q2; exact absurd q2 (by decide)
          · rw [show i = n by omega]; exact Nat.le_refl _
        · rw [h2 i q1] at q2; exact absurd q2 (by decide)
      · rw [if_neg (fun q => c q.1)]
        refine Or.inl ⟨h1, fun i q => ?_⟩
        rcases Nat.lt_or_ge i n with e | e
        · exact h2 i e
        · rw [show i = n by omega]; exact Bool.eq_false_iff.mpr c
    · rw [h2, Int.toNat_natCast]
      by_cases c : p n = true ∧ pop8 n < pop8 j
      · rw [if_pos ⟨c.1, Or.inr c.2⟩]
        refine Or.inr ⟨n, by omega, rfl, c.1, fun i q1 q2 => ?_, fun i q1 q2 => ?_⟩
        · rcases Nat.lt_or_ge i n with e | e
          · have := h4 i e q2; omega
          · rw [show i = n by omega]; exact Nat.le_refl _
        · have := h4 i q1 q2; omega
      · rw [if_neg (fun q => c ⟨q.1, by rcases q.2 with z | z; omega; exact z⟩)]
        refine Or.inr ⟨j, by omega, rfl, h3, fun i q1 q2 => ?_, h5⟩
        rcases Nat.lt_or_ge i n with e | e
        · exact h4 i e q2
        · have e2 : i = n := by omega
          subst e2
          rcases Nat.lt_or_ge (pop8 i) (pop8 j) with z | z
          · exact absurd ⟨q2, z⟩ c
          · exact z
theorem best_scan (p : Nat → Bool) : scan2 (fun z => firstN (fun b => p b && decide (pop8 b = z)) 0 256) 0 9 = bestN p 256 := by
  have hf : ∀ z : Nat, (firstN (fun b => p b && decide (pop8 b = z)) 0 256 = -9 ∧ ∀ j : Nat, j < 256 → p j = true → pop8 j ≠ z) ∨ (∃ j : Nat, j < 256 ∧ firstN (fun b => p b && decide (pop8 b = z)) 0 256 = (j : Int) ∧ p j = true ∧ pop8 j = z ∧ ∀ i : Nat, i < j → p i = true → pop8 i ≠ z) := by
    intro z
    rcases firstN_spec (fun b => p b && decide (pop8 b = z)) 0 256 with ⟨h1, h2⟩ | ⟨j, h1, h2, h3, h4, h5⟩
    · refine Or.inl ⟨h1, fun j q1 q2 q3 => ?_⟩
      have := h2 j (by omega) (by omega)
      simp [q2, q3] at this
    · have h4 : (p j && decide (pop8 j = z)) = true := h4
      rw [Bool.and_eq_true, decide_eq_true_eq] at h4
      refine Or.inr ⟨j, by omega, h3, h4.1, h4.2, fun i q1 q2 q3 => ?_⟩
      have := h5 i (by omega) q1
      simp [q2, q3] at this
  rcases bestN_spec p 256 with ⟨b1, b2⟩ | ⟨b, b1, b2, b3, b4, b5⟩
  · rw [b1]
    rcases scan2_spec (fun z => firstN (fun b => p b && decide (pop8 b = z)) 0 256) 0 9 with ⟨h1, _⟩ | ⟨z, _, _, _, h4, _⟩
    · exact h1
    · rcases hf z with ⟨k1, _⟩ | ⟨j, k1, _, k3, _⟩
      · exact absurd k1 h4
      · rw [b2 j k1] at k3; exact absurd k3 (by decide)
  · rw [b2]
    have hp := pop8_le b
    rcases scan2_spec (fun z => firstN (fun b => p b && decide (pop8 b = z)) 0 256) 0 9 with ⟨_, h2⟩ | ⟨z, z1, z2, h3, h4, h5⟩
    · have e := h2 (pop8 b) (by omega) (by omega)
      rcases hf (pop8 b) with ⟨_, k2⟩ | ⟨j, k1, k2, _⟩
      · exact absurd rfl (k2 b b1 b3)
      · have e : firstN (fun c => p c && decide (pop8 c = pop8 b)) 0 256 = -9 := e
        omega
    · rw [h3]
      rcases hf z with ⟨k1, _⟩ | ⟨j, k1, k2, k3, k4, k5⟩
      · exact absurd k1 h4
      · show firstN (fun c => p c && decide (pop8 c = z)) 0 256 = _
        rw [k2]
        have l1 := b4 j k1 k3
        have l2 : ¬ pop8 b < z := fun q => by
          have e := h5 (pop8 b) (by omega) q
          rcases hf (pop8 b) with ⟨_, m2⟩ | ⟨i, _, m2, _⟩
          · exact absurd rfl (m2 b b1 b3)
          · have e : firstN (fun c => p c && decide (pop8 c = pop8 b)) 0 256 = -9 := e
            omega
        have l3 : pop8 b = z := by omega
        rcases Nat.lt_trichotomy j b with q | q | q
        · have := b5 j q k3; omega
        · rw [q]
        · exact absurd l3 (k5 b q b3)

/-! THE CLASS: months. -/
/-- the numbers below n that are in a set, in order -/
def ztr (set : Nat) (n : Nat) : List Nat := (List.range n).filter (fun i => set.testBit i)
theorem ztr_s (set n : Nat) : ztr set (n + 1) = if set.testBit n = true then ztr set n ++ [n] else ztr set n := by
  unfold ztr
  rw [List.range_succ, List.filter_append]
  by_cases z : set.testBit n = true
  · rw [if_pos z]; simp [z]
  · rw [if_neg z]; simp [z]
theorem ztr_len (set : Nat) : ∀ n, (ztr set n).length = pcn n set
  | 0 => rfl
  | n + 1 => by
    rw [ztr_s, pcn_s]
    by_cases z : set.testBit n = true
    · rw [if_pos z, if_pos z, List.length_append, ztr_len set n]; rfl
    · rw [if_neg z, if_neg z, ztr_len set n]; rfl
theorem ztr_mem {set n x : Nat} : x ∈ ztr set n ↔ x < n ∧ set.testBit x = true := by
  unfold ztr
  rw [List.mem_filter, List.mem_range]
/-- places are in order -/
theorem ztr_lt (set : Nat) : ∀ n i j, i < j → j < (ztr set n).length → (ztr set n).getD i 0 < (ztr set n).getD j 0
  | 0, i, j, h, hj => by simp [ztr] at hj
  | n + 1, i, j, h, hj => by
    rw [ztr_s] at hj ⊢
    by_cases z : set.testBit n = true
    · rw [if_pos z] at hj ⊢
      rw [List.length_append, List.length_singleton] at hj
      rw [gdn_app, gdn_app, if_pos (by omega)]
      by_cases y : j < (ztr set n).length
      · rw [if_pos y]; exact ztr_lt set n i j h y
      · rw [if_neg y, if_pos (by omega)]
        exact (ztr_mem.1 (gdn_mem (by omega))).1
    · rw [if_neg z] at hj ⊢
      exact ztr_lt set n i j h hj
theorem ztr_inj {set n i j : Nat} (hi : i < (ztr set n).length) (hj : j < (ztr set n).length) (h : (ztr set n).getD i 0 = (ztr set n).getD j 0) : i = j := by
  apply Classical.byContradiction
  intro w
  by_cases z : i < j
  · have := ztr_lt set n i j z hj; omega
  · have := ztr_lt set n j i (by omega) hi; omega
/-- engines that may work a turn -/
def zma2 (g : zM) (t : Nat) : Nat → Nat
  | 0 => 0
  | e + 1 => zma2 g t e ||| (if (g 135 (12 * (g 83 ((e : Int))) + (t : Int))) = 0 then 0 else 2 ^ e)
theorem zma2_t {g : zM} {t b : Nat} : ∀ E : Nat, (zma2 g t E).testBit b = true ↔ b < E ∧ (g 135 (12 * (g 83 ((b : Int))) + (t : Int))) ≠ 0
  | 0 => by unfold zma2; simp
  | E + 1 => by
    unfold zma2
    rw [Nat.testBit_or, Bool.or_eq_true, zma2_t E]
    by_cases z : (g 135 (12 * (g 83 ((E : Int))) + (t : Int))) = 0
    · rw [if_pos z]
      constructor
      · rintro (h | h)
        · exact ⟨by omega, h.2⟩
        · simp at h
      · rintro ⟨h1, h2⟩
        by_cases y : b = E
        · subst y; exact absurd z h2
        · exact Or.inl ⟨by omega, h2⟩
    · rw [if_neg z, Nat.testBit_two_pow]
      constructor
      · rintro (h | h)
        · exact ⟨by omega, h.2⟩
        · have : E = b := by simpa using h
          subst this; exact ⟨by omega, z⟩
      · rintro ⟨h1, h2⟩
        by_cases y : b = E
        · subst y; right; simp
        · exact Or.inl ⟨by omega, h2⟩
theorem zma2_lt {g : zM} {t : Nat} : ∀ E : Nat, zma2 g t E < 2 ^ E
  | 0 => by show (0 : Nat) < 2 ^ 0; decide
  | E + 1 => by
    unfold zma2
    have := zma2_lt (g := g) (t := t) E
    have p : 2 ^ E < 2 ^ (E + 1) := Nat.pow_lt_pow_right (by decide) (by omega)
    refine Nat.or_lt_two_pow (by omega) ?_
    split
    · exact Nat.two_pow_pos _
    · exact p
def zcme (m m1 : zM) : Prop := ∀ i j, i ≠ 45 → i ≠ 46 → i ≠ 47 → i ≠ 48 → i ≠ 49 → i ≠ 50 → i ≠ 51 → ¬ (i = 43 ∧ (j = 3 ∨ j = 5 ∨ j = 10 ∨ j = 11 ∨ j = 12)) → m1 i j = m i j
theorem zcm_F {m m1 : zM} (F : zFix m) (p : zcme m m1) : zFix m1 := fun i j q => by
  have := zrv_ob q
  rw [p i j (by omega) (by omega) (by omega) (by omega) (by omega) (by omega) (by omega) (fun z => by
    obtain ⟨z1, z2⟩ := z
    subst z1
    rcases z2 with y | y | y | y | y <;> subst y <;> exact q rfl)]
  exact F i j q

/-! THE CLASS'S LAZY ENGINES against the model's days. -/
/-- engine e (object p of the class) against the model's state s on day D: what it is once it has woken -/
def xcore (g m s : zM) (D e p : Int) : Prop :=
  (s 99 e) = (if (m p 5) ≠ -1 ∧ (m p 5) ≤ D then (g 84 e) else (m p 2)) ∧ (s 106 e) = (m p 3) ∧
  (s 102 e) = (if (m p 5) ≠ -1 ∧ (m p 5) ≤ D then 0 else (m p 6)) ∧ (s 103 e) = (if (m p 5) ≠ -1 ∧ (m p 5) ≤ D then 0 else (m p 7)) ∧
  (s 104 e) = (if (m p 5) ≠ -1 ∧ (m p 5) ≤ D then (m p 5) else (m p 8)) ∧ (s 105 e) = (if (m p 5) ≠ -1 ∧ (m p 5) ≤ D then (m p 5) else (m p 9)) ∧
  ((s 100 e) = 0 ∨ (s 100 e) = 1 ∨ (s 100 e) = 2) ∧ (m p 4) = (if (s 100 e) = 2 then 1 else 0) ∧
  (if (s 100 e) = 1 then (s 101 e) else -1) = (if (m p 5) ≠ -1 ∧ (m p 5) ≤ D then -1 else (m p 5)) ∧ ((s 100 e) = 1 → D < (s 101 e)) ∧ ((m p 5) ≠ -1 → (m p 4) = 0)
/-- what is of the day alone -/
def xdp (g m s : zM) (X : zTX) (D e p : Int) : Prop := (m p 10) ≤ D ∧ -1 ≤ (m p 10) ∧
  ((m p 10) = D → ¬ ((m p 5) ≠ -1 ∧ (m p 5) ≤ D) ∧ (m p 11) = (s 107 e) ∧ (m p 12) = (s 116 (9 * D + e)) ∧ (m p 13) = (s 109 e) ∧ ((s 108 e) = -1 → (m p 14) = 0) ∧
    ((s 108 e) ≠ -1 → (m p 14) = (m 24 ((s 108 e))) ∧ (m ((m 24 ((s 108 e)))) 16) = (s 110 e) ∧ 0 ≤ (s 108 e) ∧ (s 108 e) < (g 54 61) ∧ (g 94 ((s 108 e))) = 8 ∧ (g 96 ((s 108 e))) = e ∧ (m ((m 24 ((s 108 e)))) 11) = (s 119 ((s 108 e))))) ∧
  ((m p 10) ≠ D → (s 107 e) = 0 ∧ (s 108 e) = -1 ∧ (s 109 e) = 0 ∧ (s 110 e) = 0 ∧ (s 116 (9 * D + e)) = zb (zdue g X D s e))
theorem zdue_cg {g s s' : zM} {X : zTX} {D e : Int} (h : ∀ i, 99 ≤ i → i ≤ 110 → s i e = s' i e) : zdue g X D s e = zdue g X D s' e := by
  unfold zdue
  rw [h 102 (by decide) (by decide), h 103 (by decide) (by decide), h 104 (by decide) (by decide), h 105 (by decide) (by decide), h 106 (by decide) (by decide)]
theorem xR_wake {g m s s' : zM} {X : zTX} {D e p : Int} (G : 0 ≤ (g 54 47) ∧ (g 54 47) ≤ 9) (he : 0 ≤ e ∧ e < (g 54 47)) (hD : 0 ≤ D) (hs : ∀ i, 99 ≤ i → i ≤ 110 → s' i e = s i e) (hh : (m p 1) = (g 84 e)) (C : xcore g m s D e p) (R : xdp g m s X D e p) :
    xcore g m (zbeg g X (D + 1) s') (D + 1) e p ∧ xdp g m (zbeg g X (D + 1) s') X (D + 1) e p := by
  obtain ⟨c1, c2, c3, c4, c5⟩ := zbeg_c (s := s') (X := X) (d := D + 1) G
  have cc : ∀ i, 99 ≤ i → i ≤ 110 → zbeg g X (D + 1) s' i e = zwk1 g (D + 1) s' e i e := fun i a b => c1 i e a b he.1 he.2
  obtain ⟨a1, a2, a3, a4, a5, a6, a7, a8, a9, a10, a11⟩ := C
  obtain ⟨b1, b2, b3, b4⟩ := R
  constructor
  · unfold xcore
    rw [cc 99 (by decide) (by decide), cc 100 (by decide) (by decide), cc 101 (by decide) (by decide), cc 102 (by decide) (by decide), cc 103 (by decide) (by decide), cc 104 (by decide) (by decide), cc 105 (by decide) (by decide), cc 106 (by decide) (by decide)]
    unfold zwk1
    rw [hs 100 (by decide) (by decide), hs 101 (by decide) (by decide)]
    by_cases w : (s 100 e) = 1 ∧ (s 101 e) = D + 1
    · rw [if_pos w]
      rw [if_pos w.1] at a9
      have nr : ¬ ((m p 5) ≠ -1 ∧ (m p 5) ≤ D) := by intro z; rw [if_pos z] at a9; omega
      rw [if_neg nr] at a9 a1 a3 a4 a5 a6
      have rl : (m p 5) ≠ -1 ∧ (m p 5) ≤ D + 1 := by omega
      simp only [if_pos rl]
      have f0 : m p 4 = 0 := a11 rl.1
      simp [zwr_ap, hs 106 (by decide) (by decide), a2, f0]
      omega
    · rw [if_neg w]
      have e1 : ∀ i, i ≠ 107 → i ≠ 108 → i ≠ 109 → i ≠ 110 → 99 ≤ i → i ≤ 106 → zwr (zwr (zwr (zwr s' 107 e 0) 108 e (-1)) 109 e 0) 110 e 0 i e = s i e := by
        intro i h1 h2 h3 h4 h5 h6
        repeat rw [zwr_ap, if_neg (by omega)]
        exact hs i h5 (by omega)
      rw [e1 99 (by decide) (by decide) (by decide) (by decide) (by decide) (by decide), e1 100 (by decide) (by decide) (by decide) (by decide) (by decide) (by decide), e1 101 (by decide) (by decide) (by decide) (by decide) (by decide) (by decide), e1 102 (by decide) (by decide) (by decide) (by decide) (by decide) (by decide), e1 103 (by decide) (by decide) (by decide) (by decide) (by decide) (by decide), e1 104 (by decide) (by decide) (by decide) (by decide) (by decide) (by decide), e1 105 (by decide) (by decide) (by decide) (by decide) (by decide) (by decide), e1 106 (by decide) (by decide) (by decide) (by decide) (by decide) (by decide)]
      by_cases rl : (m p 5) ≠ -1 ∧ (m p 5) ≤ D
      · have rl2 : (m p 5) ≠ -1 ∧ (m p 5) ≤ D + 1 := by omega
        simp only [if_pos rl] at a1 a3 a4 a5 a6 a9
        simp only [if_pos rl2]
        refine ⟨a1, a2, a3, a4, a5, a6, a7, a8, a9, fun z => ?_, a11⟩
        rw [if_pos z] at a9; have := a10 z; omega
      · have rl2 : ¬ ((m p 5) ≠ -1 ∧ (m p 5) ≤ D + 1) := by
          intro z
          simp only [if_neg rl] at a9
          by_cases h1 : (s 100 e) = 1
          · rw [if_pos h1] at a9; omega
          · rw [if_neg h1] at a9; omega
        simp only [if_neg rl] at a1 a3 a4 a5 a6 a9
        simp only [if_neg rl2]
        refine ⟨a1, a2, a3, a4, a5, a6, a7, a8, a9, fun z => ?_, a11⟩
        rw [if_pos z] at a9; have := a10 z; omega
  · refine ⟨by omega, b2, fun z => by omega, fun _ => ?_⟩
    rw [cc 107 (by decide) (by decide), cc 108 (by decide) (by decide), cc 109 (by decide) (by decide), cc 110 (by decide) (by decide), c5 e he.1 he.2]
    unfold zwk1
    refine ⟨?_, ?_, ?_, ?_, rfl⟩ <;> split <;> simp [zwr_ap]

/-! THE CLASS begins to settle: miles told. -/
theorem zmf_s (g : zM) (k : Int) : ∀ (n : Nat) (i v : Int), zmf g k (n + 1) i v = if (g 94 (i + n)) = 9 ∧ (g 97 (i + n)) = k then (g 98 (i + n)) else zmf g k n i v
  | 0, i, v => by simp [zmf]
  | n + 1, i, v => by
    rw [zmf, zmf_s g k n (i + 1)]
    rw [show i + 1 + (n : Int) = i + ((n + 1 : Nat) : Int) by omega]
    rfl
theorem zmi_s (g : zM) {k i : Int} (h : k < i) : zmi g k (i + 1) = if (g 94 i) = 9 ∧ (g 97 i) = k then (g 98 i) else zmi g k i := by
  unfold zmi
  rw [show (i + 1 - (k + 1)).toNat = (i - (k + 1)).toNat + 1 by omega, zmf_s, show k + 1 + (((i - (k + 1)).toNat : Nat) : Int) = i by omega]
theorem zmi_0 (g : zM) (k : Int) : zmi g k (k + 1) = (g 90 ((g 97 k))) := by
  unfold zmi
  rw [show (k + 1 - (k + 1)).toNat = 0 by omega]; rfl
theorem u_Bd_told {d : Nat} {g m0 : zM} {h : zH} {P : zM → zH → Prop} {X : zTX} {n : Int} (L : zLay h) (S : xst g m0 h X) (G : zgood g) (hn : 0 ≤ n ∧ n ≤ (g 54 61)) :
    ∀ (t : Nat) (i : Int) (m : zM), 0 ≤ i → i + t = n → (∀ x j, ¬ (142 < x ∧ kd h x = 7 ∧ j = 8) → m x j = m0 x j) → xtold g m i → (∀ m', (∀ x j, ¬ (142 < x ∧ kd h x = 7 ∧ j = 8) → m' x j = m0 x j) → xtold g m' n → P m' h) → q_Bd_startAnew_32 d 19 n i m h (zk0 P) := by
  obtain ⟨F0, B0, E0, T0, A0, K0, O0, M0⟩ := S
  intro t
  induction t with
  | zero =>
    intro i m i0 hi w T K
    rw [show i = n by omega] at T
    apply s_Bd_startAnew_32
    exact ⟨fun _ => ⟨rfl, K m w T⟩, fun z => by omega⟩
  | succ t ih =>
    intro i m i0 hi w T K
    have hi2 : i < (g 54 61) := by omega
    have ai := A0 i i0 hi2
    have ki := ai.1
    unfold zob at ki
    have gi := G.2.2.2.2.2.1 i i0 hi2
    unfold zfact at gi
    have g8 := gi.2.2.2.2.2.1
    have g9 := gi.2.2.2.2.2.2.1
    have sr := gi.1
    clear gi
    have F : zFix m := fun x j q => by
      have ob := zrv_ob q
      rw [w x j (by omega)]; exact F0 x j q
    have f24 : ∀ j, m 24 j = m0 24 j := fun j => w 24 j (by omega)
    have sl : ∀ j, j ≠ 8 → m (m0 24 i) j = m0 (m0 24 i) j := fun j hj => w _ j (by omega)
    have e0 : m (m0 24 i) 0 = zck (g 94 i) := by rw [sl 0 (by decide)]; exact ai.2.1
    have told_old : ∀ m', (∀ q, 0 ≤ q → q < i → (g 94 q) = 8 → m' (m' 24 q) 8 = zmi g q (i + 1)) → ((g 94 i) = 8 → m' (m' 24 i) 8 = zmi g i (i + 1)) → xtold g m' (i + 1) := by
      intro m' h1 h2 q q0 q1 q2
      by_cases y : q = i
      · subst y; exact h2 q2
      · exact h1 q q0 (by omega) q2
    apply s_Bd_startAnew_32
    refine ⟨fun z => by omega, fun _ => ?_⟩
    simp only [f19_8 F, k19 L, k24 L, l24 L, f24, ki.2.2, true_and, e0]
    have c5 := B0.2.2.2.2.2
    refine ⟨i0, by omega, fun z => ⟨fun z2 => ?_, fun z2 => ?_⟩, fun z => ?_⟩
    · rw [w32_id (by omega) (by omega)]
      have n8 : (g 94 i) ≠ 8 := fun y => z ((zck8 _).2 y)
      have n9 : (g 94 i) ≠ 9 := fun y => z2 (by rw [y]; rfl)
      refine ih (i + 1) m (by omega) (by omega) w (told_old m (fun q q0 q1 q2 => ?_) (fun y => absurd y n8)) K
      rw [zmi_s g q1, if_neg (fun y => n9 y.1)]; exact T q q0 q1 q2
    · have s9 : (g 94 i) = 9 := by
        have : zck (g 94 i) = 5 := Classical.not_not.1 z2
        unfold zck at this; omega
      have gk := g9 s9
      have am := ai.2.2.2.2.2.1 s9
      have ak := A0 _ gk.1 (show (g 97 i) < (g 54 61) by omega)
      have kk := ak.1
      unfold zob at kk
      clear ak
      simp only [sl 7 (by decide), sl 6 (by decide), am.1, am.2, f24, kk.2.2, true_and]
      refine ⟨gk.1, by omega, by omega, fun m1 e1 => ?_⟩
      rw [w32_id (by omega) (by omega)]
      have r1 : ∀ x j, ¬ (x = m0 24 (g 97 i) ∧ j = 8) → m1 x j = m x j := fun x j y => by rw [e1, zwr_ap, if_neg y]
      have f241 : ∀ j, m1 24 j = m0 24 j := fun j => by rw [r1 24 j (by omega)]; exact f24 j
      refine ih (i + 1) m1 (by omega) (by omega) (fun x j y => by rw [r1 x j (fun y2 => y ⟨by omega, by rw [y2.1]; exact kk.2.2, y2.2⟩)]; exact w x j y) (told_old m1 (fun q q0 q1 q2 => ?_) (fun y => by omega)) K
      rw [zmi_s g q1, f241]
      by_cases y : (g 97 i) = q
      · rw [if_pos ⟨s9, y⟩, ← y, e1, zwr_eq]
      · rw [if_neg (fun y2 => y y2.2), r1 _ _ (fun y2 => y ((A0 q q0 (by omega)).2.2.2.2.2.2.2.2.2 _ gk.1 (by omega) y2.1.symm))]
        have := T q q0 q1 q2
        rw [f24] at this; exact this
    · have s8 : (g 94 i) = 8 := (zck8 _).1 (Classical.not_not.1 z)
      have gk := g8 s8
      have am := ai.2.2.2.2.1 s8
      have tk := T0 _ gk.1 gk.2.1
      have kt := tk.1
      unfold zob at kt
      have c4 := B0.2.2.2.2.1
      have f23 : ∀ j, m 23 j = m0 23 j := fun j => w 23 j (by omega)
      have ft : m (m0 23 (g 97 i)) 6 = (g 90 ((g 97 i))) := by rw [w _ 6 (by omega)]; exact tk.2.2.2.2.2.2.2.1
      simp only [sl 3 (by decide), am.1, f19_6 F, k19 L, k23 L, l23 L, f23, kt.2.2, ft, true_and]
      refine ⟨gk.1, by omega, by omega, fun m1 e1 => ?_⟩
      rw [w32_id (by omega) (by omega)]
      have r1 : ∀ x j, ¬ (x = m0 24 i ∧ j = 8) → m1 x j = m x j := fun x j y => by rw [e1, zwr_ap, if_neg y]
      have f241 : ∀ j, m1 24 j = m0 24 j := fun j => by rw [r1 24 j (by omega)]; exact f24 j
      refine ih (i + 1) m1 (by omega) (by omega) (fun x j y => by rw [r1 x j (fun y2 => y ⟨by omega, by rw [y2.1]; exact ki.2.2, y2.2⟩)]; exact w x j y) (told_old m1 (fun q q0 q1 q2 => ?_) (fun _ => by rw [f241, e1, zwr_eq, zmi_0])) K
      rw [zmi_s g q1, if_neg (by omega), f241, r1 _ _ (fun y2 => by have := ai.2.2.2.2.2.2.2.2.2 q q0 (by omega) y2.1; omega)]
      have := T q q0 q1 q2
      rw [f24] at this; exact this

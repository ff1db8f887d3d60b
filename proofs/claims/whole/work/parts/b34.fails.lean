/-! THE CLASS's failures and coals. -/
theorem xman_fr {g m m' s s' : zM} {X : zTX} {D : Int} (M : xman g m s X D) (hm : ∀ i j, i ≤ 142 → m' i j = m i j) (hs : ∀ i j, 111 ≤ i → i ≤ 113 → s' i j = s i j) : xman g m' s' X D := by
  obtain ⟨x1, x2, x3, x4⟩ := M
  unfold xman at *
  rw [hm 19 16 (by decide), hm 19 15 (by decide)]
  refine ⟨x1, x2, fun z => ?_, fun z => ?_⟩
  · obtain ⟨y1, y2, y3, y4⟩ := x3 z
    refine ⟨fun p a b => ?_, fun t a b => ?_, y3, zxl_c (fun i j w => hm i j (by omega)) y4⟩
    · rw [hm 27 p (by decide), hs 111 p (by decide) (by decide), hs 112 p (by decide) (by decide)]; exact y1 p a b
    · rw [hs 113 t (by decide) (by decide)]; exact y2 t a b
  · obtain ⟨y1, y2⟩ := x4 z
    refine ⟨fun p a b => ?_, fun t a b => ?_⟩
    · rw [hs 111 p (by decide) (by decide), hs 112 p (by decide) (by decide)]; exact y1 p a b
    · rw [hs 113 t (by decide) (by decide)]; exact y2 t a b
/-- steps that touch the engine e, the fact q and the run r of the engine -/
theorem xsim_g {g m m' s s' : zM} {h : zH} {X : zTX} {n D e q r : Int} (S : xst g m h X) (SM : xsim g m s X n D q) (hq : 0 ≤ q ∧ q < n ∧ n ≤ (g 54 61)) (he : 0 ≤ e ∧ e < (g 54 47)) (hD : 0 ≤ D) (hqe : (g 96 q) = e) (hr : 0 ≤ r ∧ r < (g 54 61) ∧ (g 96 r) = e)
    (h24 : ∀ j, m' 24 j = m 24 j) (h21 : ∀ j, m' 21 j = m 21 j) (hob : ∀ i j, (i = 3 ∨ i = 4 ∨ i = 2 ∧ (j = 2 ∨ j = 6)) → m' i j = m i j)
    (hm : ∀ i j, 142 < i → i ≠ (m 21 e) → i ≠ m 24 q → ¬ (i = m 24 r ∧ (j = 11 ∨ j = 16)) → m' i j = m i j) (ht : m' (m 24 q) 8 = m (m 24 q) 8)
    (hs : ∀ i j, ¬ (99 ≤ i ∧ i ≤ 110 ∧ j = e) → ¬ (111 ≤ i ∧ i ≤ 113) → ¬ (117 ≤ i ∧ i ≤ 126 ∧ j = q) → ¬ (i = 119 ∧ j = r) → s' i j = s i j)
    (hM : xman g m' s' X D) (N : xaw g m' s' D e (m 21 e) ∧ xda g m' s' D e (m 21 e)) (R1 : xres1 g m' s' q (m 24 q)) (R2 : r ≠ q → xres1 g m s r (m 24 r) → xres1 g m' s' r (m 24 r)) : xsim g m' s' X n D (q + 1) := by
  obtain ⟨F, B, E, T, A, Kb, O, M⟩ := S
  obtain ⟨SE, SM2, SR, ST, SO⟩ := SM
  have ke := (E e he.1 he.2).1
  unfold zob at ke
  have nf : ∀ q', 0 ≤ q' → q' < (g 54 61) → 142 < m 24 q' ∧ m 24 q' ≠ m 21 e := fun q' a b => by
    have := (A q' a b).1; unfold zob at this; exact ⟨this.1, fun w => by rw [w] at this; omega⟩
  have inj : ∀ a b, 0 ≤ a → a < (g 54 61) → 0 ≤ b → b < (g 54 61) → a ≠ b → m 24 a ≠ m 24 b := fun a b a0 a1 b0 b1 ne w => ne ((A b b0 b1).2.2.2.2.2.2.2.2.2 a a0 a1 w)
  have q1 : q < (g 54 61) := by omega
  refine ⟨?_, hM, ?_, ?_, ?_⟩
  · refine xeng_up SE h21 h24 (fun e' j a b c => ?_) (fun q' a b c w => ?_) (fun i e' a b c => hs i e' (by omega) (by omega) (by omega) (by omega)) (fun j => hs 116 j (by omega) (by omega) (by omega) (by omega)) (xda_to hD N.1 N.2)
    · have ke' := (E e' a b).1
      unfold zob at ke'
      refine hm _ j ke'.1 (xeng_e E he ⟨a, b⟩ c) (fun w => ?_) (fun w => ?_)
      · have := (A q hq.1 q1).1; unfold zob at this; rw [← w] at this; omega
      · have := (A r hr.1 hr.2.1).1; unfold zob at this; rw [← w.1] at this; omega
    · have ne1 : q' ≠ q := fun y => w (by rw [y]; exact hqe)
      have ne2 : q' ≠ r := fun y => w (by rw [y]; exact hr.2.2)
      have i1 := inj q' q a b hq.1 q1 ne1
      have i2 := inj q' r a b hr.1 hr.2.1 ne2
      have n1 := nf q' a b
      exact ⟨hm _ 16 n1.1 n1.2 i1 (fun y => i2 y.1), hm _ 11 n1.1 n1.2 i1 (fun y => i2 y.1), hs 119 q' (by omega) (by omega) (by omega) (by omega)⟩
  · intro q' a b c w
    rw [h24]
    by_cases y : q' = q
    · subst y; exact R1
    · have hb : q' < (g 54 61) := by omega
      have old := SR q' a b c (by omega)
      by_cases y2 : q' = r
      · subst y2; exact R2 y old
      · have i1 := inj q' q a hb hq.1 q1 y
        have i2 := inj q' r a hb hr.1 hr.2.1 y2
        have n1 := nf q' a hb
        have hf := fun j => hm (m 24 q') j n1.1 n1.2 i1 (fun y => i2 y.1)
        have h1 : ∀ i, 117 ≤ i → i ≤ 126 → s' i q' = s i q' := fun i hi hi2 => hs i q' (by omega) (by omega) (by omega) (by omega)
        unfold xres1 at *
        simp only [hf]
        rw [h1 117 (by decide) (by decide), h1 118 (by decide) (by decide), h1 119 (by decide) (by decide), h1 120 (by decide) (by decide), h1 121 (by decide) (by decide), h1 122 (by decide) (by decide), h1 123 (by decide) (by decide), h1 124 (by decide) (by decide), h1 125 (by decide) (by decide), h1 126 (by decide) (by decide)]
        exact old
  · refine xtold_fr ST h24 (fun q' a b => ?_)
    have hb : q' < (g 54 61) := by omega
    have n1 := nf q' a hb
    by_cases y : q' = q
    · rw [y]; exact ht
    · exact hm _ 8 n1.1 n1.2 (inj q' q a hb hq.1 q1 y) (by omega)
  · exact zoc_fr SO hob
theorem c_Bd_step7 {d : Nat} {g m s : zM} {h : zH} {P : zM → zH → Prop} {X : zTX} {n D q : Int} (L : zLay h) (S : xst g m h X) (G : zgood g) (hq : 0 ≤ q ∧ q < n ∧ n ≤ (g 54 61)) (h7 : (g 94 q) = 7) (SM : xsim g m s X n D q)
    (K : ∀ m', xfr h m m' → xsim g m' (zhap g X n q s) X n D (q + 1) → P m' h) : zcal WP (d + 5) n_Bd_step [.inr (.inr 19), .inr (.inr (m 24 q))] m h (zk0 P) := by
  obtain ⟨F, B, E, T, A, Kb, O, M⟩ := id S
  have gq := G.2.2.2.2.2.1 q hq.1 (by omega)
  unfold zfact at gq
  have he := gq.2.2.2.2.1 (Or.inl h7)
  clear gq
  have aq := A q hq.1 (by omega)
  have kq := aq.1
  unfold zob at kq
  have en := aq.2.2.1
  apply e_Bd_step
  apply s_Bd_step_0
  refine ⟨kq.2.2, k19 L, c_Bd_isEngine F L B (fun w => ?_) (fun w => ?_)⟩
  · rw [en, he] at w; omega
  · refine ⟨0, rfl, fun z => absurd rfl z, fun _ => ⟨rfl, K m (xfr_rf h m) ?_⟩⟩
    have hz : zhap g X n q s = s := by simp [zhap, h7]
    rw [hz]
    obtain ⟨a1, a2, a3, a4, a5⟩ := SM
    refine ⟨a1, a2, fun q' b1 b2 b3 b4 => ?_, a4, a5⟩
    by_cases y : q' = q
    · subst y; exact ⟨fun z => by omega, fun z => by omega⟩
    · exact a3 q' b1 b2 b3 (by omega)

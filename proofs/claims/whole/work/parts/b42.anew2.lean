/-! THE CLASS begins to settle: its engines. -/
/-- an engine as at the beginning -/
def xfresh (g m : zM) (e p : Int) : Prop := (m p 2) = (g 84 e) ∧ (m p 3) = (g 84 e) ∧ (m p 4) = 0 ∧ (m p 5) = -1 ∧ (m p 6) = 0 ∧ (m p 7) = 0 ∧ (m p 8) = 0 ∧ (m p 9) = 0 ∧ (m p 10) = -1
theorem c_Bd_startAnew {d : Nat} {g m0 : zM} {h : zH} {P : zM → zH → Prop} {X : zTX} {n : Int} (L : zLay h) (S : xst g m0 h X) (G : zgood g) (hn : 0 ≤ n ∧ n ≤ (g 54 61))
    (K : ∀ m', xfr h m0 m' → (∀ i j, i ≤ 142 → ¬ (i = 19 ∧ j = 16) → m' i j = m0 i j) → (m' 19 16) = -1 → (∀ e, 0 ≤ e → e < (g 54 47) → xfresh g m' e (m0 21 e)) → xtold g m' n → P m' h) : zcal WP (d + 2) n_Bd_startAnew [.inr (.inr 19), .inl n] m0 h (zk0 P) := by
  obtain ⟨F0, B0, E0, T0, A0, K0, O0, M0⟩ := id S
  have c2 := B0.2.2.1
  have b2 := B0.1.2.1
  have lp : ∀ (t : Nat) (i : Int) (m : zM), 0 ≤ i → i + t = (g 54 47) → (∀ x j, ¬ (142 < x ∧ kd h x = 6 ∧ 2 ≤ j) → ¬ (x = 19 ∧ j = 16) → m x j = m0 x j) → m 19 16 = -1 → (∀ e, 0 ≤ e → e < i → xfresh g m e (m0 21 e)) → q_Bd_startAnew_7 (d + 1) 19 n i m h (zk0 P) := by
    intro t
    induction t with
    | zero =>
      intro i m i0 hi w wt fr
      have fr1 : xfr h m0 m := fun x j a b c e f => w x j e (by omega)
      have S1 := xst_fr S fr1
      have F := S1.1
      have e3 : m 19 3 = (g 54 47) := by rw [w 19 3 (by omega) (by omega)]; exact b2
      apply s_Bd_startAnew_7
      refine ⟨k19 L, fun _ => ?_, fun z => by omega⟩
      refine u_Bd_told L S1 G hn n.toNat 0 m (by omega) (by omega) (fun _ _ _ => rfl) (fun q q0 q1 => by omega) fun m' w' T' => ?_
      refine K m' (xfr_tr fr1 (fun x j a b c e f => w' x j (fun y => f ⟨y.1, y.2.1, by omega⟩))) (fun x j y1 y2 => by rw [w' x j (by omega)]; exact w x j (by omega) y2) (by rw [w' 19 16 (by omega)]; exact wt) (fun e e0 e1 => ?_) T'
      have ke := (E0 e e0 e1).1
      unfold zob at ke
      have sl : ∀ j, m' (m0 21 e) j = m (m0 21 e) j := fun j => w' _ j (by omega)
      have := fr e e0 (by omega)
      unfold xfresh at *
      simp only [sl]
      exact this
    | succ t ih =>
      intro i m i0 hi w wt fr
      have fr1 : xfr h m0 m := fun x j a b c e f => w x j e (by omega)
      have S1 := xst_fr S fr1
      have F := S1.1
      have e3 : m 19 3 = (g 54 47) := by rw [w 19 3 (by omega) (by omega)]; exact b2
      have ei := E0 i i0 (by omega)
      have ke := ei.1
      unfold zob at ke
      have e21 : m 21 i = m0 21 i := w 21 i (by omega) (by omega)
      have hom : m (m0 21 i) 1 = (g 84 i) := by rw [w _ 1 (by omega) (by omega)]; exact ei.2.2.1
      apply s_Bd_startAnew_7
      refine ⟨k19 L, fun z => by omega, fun _ => ?_⟩
      simp only [f19_2 F, k19 L, k21 L, l21 L, e21, ke.2.2, true_and]
      refine ⟨i0, by omega, ?_⟩
      refine c_En_startAnew ⟨ke.2.2, ke.1⟩ ?_
      rw [w32_id (by omega) (by omega)]
      have r1 : ∀ x j, ¬ (x = m0 21 i ∧ 2 ≤ j) → xsa m (m0 21 i) x j = m x j := fun x j y => by
        unfold xsa; repeat rw [zwr_ap, if_neg (by omega)]
      refine ih (i + 1) _ (by omega) (by omega) (fun x j y1 y2 => by rw [r1 x j (fun y => y1 ⟨by omega, by rw [y.1]; exact ke.2.2, y.2⟩)]; exact w x j y1 y2) (by rw [r1 19 16 (by omega)]; exact wt) (fun e e0 e1 => ?_)
      by_cases y : e = i
      · subst y
        unfold xfresh xsa
        simp only [zwr_ap, Int.reduceEq, and_false, and_true, if_false, if_true, hom]
      · have ne : m0 21 e ≠ m0 21 i := xeng_e E0 ⟨i0, by omega⟩ ⟨e0, by omega⟩ y
        have sl : ∀ j, xsa m (m0 21 i) (m0 21 e) j = m (m0 21 e) j := fun j => r1 _ j (fun y2 => ne y2.1)
        have := fr e e0 (by omega)
        unfold xfresh at *
        simp only [sl]
        exact this
  apply e_Bd_startAnew
  apply s_Bd_startAnew_0
  refine ⟨k19 L, by decide, fun m1 e1 => ?_⟩
  exact lp ((g 54 47)).toNat 0 m1 (by omega) (by omega) (fun x j _ y => by rw [e1, zwr_ap, if_neg y]) (by rw [e1, zwr_eq]) (fun e e0 e1 => by omega)

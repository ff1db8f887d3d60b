/-! RUNS ARE DETERMINED: what every one of many goals holds of, all of them hold of at once. -/
theorem ztk_all {ι : Type} {k : ι → List zV → List zV → Prop} {k' : List zV → List zV → Prop} (hk : ∀ A S, (∀ i, k i A S) → k' A S) (i0 : ι) : ∀ (j : Nat) (S acc : List zV), (∀ i, ztk j S acc (k i)) → ztk j S acc k'
  | 0, S, acc, H => hk acc S H
  | j + 1, [], acc, H => (H i0).elim
  | j + 1, v :: S, acc, H => ztk_all hk i0 j S (v :: acc) H
theorem ze_sw_all {ι : Type} {nxt : ι → zN} {nxt' : zN} (hn : ∀ {pc L S m h}, (∀ i, nxt i pc L S m h) → nxt' pc L S m h) {x : Int} {L : zL} {S : List zV} {m : zM} {h : zH} {d : Nat} : ∀ (ts : List Nat) (k : Int), (∀ i, ze_sw x L S m h (nxt i) d k ts) → ze_sw x L S m h nxt' d k ts
  | [], k, H => hn H
  | t :: ts, k, H => ⟨fun c => hn fun i => (H i).1 c, fun c => ze_sw_all hn ts _ fun i => (H i).2 c⟩
theorem zex_all {ι : Type} (i0 : ι) {nxt : ι → zN} {nxt' : zN} {cal : ι → zC} {cal' : zC} {ret : ι → zQ} {ret' : zQ} (hn : ∀ {pc L S m h}, (∀ i, nxt i pc L S m h) → nxt' pc L S m h)
    (hc : ∀ {k A m h} {P : ι → zQ} {P' : zQ}, (∀ r m h, (∀ i, P i r m h) → P' r m h) → (∀ i, cal i k A m h (P i)) → cal' k A m h P') (hr : ∀ {r m h}, (∀ i, ret i r m h) → ret' r m h)
    {I : zI} {L : zL} {S : List zV} {m : zM} {h : zH} (H : ∀ i, zex I (nxt i) (cal i) (ret i) L S m h) : zex I nxt' cal' ret' L S m h := by
  obtain ⟨op, a, b, ts, n⟩ := I
  have hans : ∀ {t S' r m1 h1}, (∀ i, ze_ans t n (nxt i) L S' r m1 h1) → ze_ans t n nxt' L S' r m1 h1 := by
    intro t S' r m1 h1 q
    match t with
    | 0 => exact ⟨(q i0).1, hn fun i => (q i).2⟩
    | 1 =>
      obtain ⟨x, hx, _⟩ := q i0
      refine ⟨x, hx, hn fun i => ?_⟩
      obtain ⟨y, hy, z⟩ := q i
      rw [hx] at hy; cases hy; exact z
    | 2 =>
      obtain ⟨x, hx, _⟩ := q i0
      refine ⟨x, hx, hn fun i => ?_⟩
      obtain ⟨y, hy, z⟩ := q i
      rw [hx] at hy; cases hy; exact z
    | t + 3 =>
      obtain ⟨x, hx, _⟩ := q i0
      refine ⟨x, hx, hn fun i => ?_⟩
      obtain ⟨y, hy, z⟩ := q i
      rw [hx] at hy; cases hy; exact z
  have hcall : ∀ k ts, (∀ i, ze_call k ts n (nxt i) (cal i) L S m h) → ze_call k ts n nxt' cal' L S m h := by
    intro k ts H
    match ts with
    | [j, c, t] =>
      refine ztk_all (fun A S' G => ?_) i0 j S [] H
      revert G
      cases Nat.ble (zwid S') 8
      · exact fun G => (G i0).elim
      · intro G
        match c with
        | 0 => exact hc (fun r m h q => hans q) G
        | c + 1 =>
          match A with
          | [] => exact (G i0).elim
          | .inl _ :: _ => exact (G i0).elim
          | .inr (.inl _) :: _ => exact (G i0).elim
          | .inr (.inr a) :: A => exact ⟨(G i0).1, hc (fun r m h q => hans q) fun i => (G i).2⟩
    | [] => exact (H i0).elim
    | [_] => exact (H i0).elim
    | [_, _] => exact (H i0).elim
    | _ :: _ :: _ :: _ :: _ => exact (H i0).elim
  have hstk : ∀ {L : zL} {j : Nat} {v : Option zV} {K : ι → zL → Prop} {K' : zL → Prop}, (∀ L, (∀ i, K i L) → K' L) → (∀ i, zstk L j v (K i)) → zstk L j v K' := by
    intro L j v K K' h1 h2
    rw [zstk_eq]
    exact h1 _ fun i => by have := h2 i; rw [zstk_eq] at this; exact this
  have hload : ∀ t, (∀ i, ze_load t a n (nxt i) L S m h) → ze_load t a n nxt' L S m h := by
    intro t H
    unfold ze_load at H ⊢
    match t with
    | 0 =>
      cases hz : zget L a with
      | none => simp only [hz] at H; exact (H i0).elim
      | some v => simp only [hz] at H; rcases v with x | x | x <;> first | exact hn H | exact (H i0).elim
    | 1 =>
      cases hz : zget L a with
      | none => simp only [hz] at H; exact (H i0).elim
      | some v => simp only [hz] at H; rcases v with x | x | x <;> first | exact hn H | exact (H i0).elim
    | t + 2 =>
      cases hz : zget L a with
      | none => simp only [hz] at H; exact (H i0).elim
      | some v => simp only [hz] at H; rcases v with x | x | x <;> first | exact hn H | exact (H i0).elim
  have hinc : (∀ i, ze_inc a b n (nxt i) L S m h) → ze_inc a b n nxt' L S m h := by
    intro H
    unfold ze_inc at H ⊢
    cases hz : zget L a with
    | none => simp only [hz] at H; exact (H i0).elim
    | some v => simp only [hz] at H; rcases v with x | x | x <;> first | exact hstk (fun L q => hn q) H | exact (H i0).elim
  have hstore : ∀ t, (∀ i, ze_store t a n (nxt i) L S m h) → ze_store t a n nxt' L S m h := by
    intro t H
    rcases S with _ | ⟨x | x | x, S⟩ <;> match t with
    | 0 => first | exact hstk (fun L q => hn q) H | exact (H i0).elim
    | 1 => first | exact hstk (fun L q => hstk (fun L q => hstk (fun L q => hn q) q) q) H | exact (H i0).elim
    | t + 2 => first | exact hstk (fun L q => hn q) H | exact (H i0).elim
  have hput : ∀ c ts, (∀ i, ze_putf c ts n (nxt i) L S m h) → ze_putf c ts n nxt' L S m h := by
    intro c ts H
    match ts with
    | [] => exact (H i0).elim
    | [_] => exact (H i0).elim
    | _ :: _ :: _ :: _ => have := H i0; unfold ze_putf at this; simp at this
    | [k, 0] => rcases S with _ | ⟨x | x | x, _ | ⟨y | y | y, S⟩⟩ <;> first | exact (H i0).elim | exact ⟨(H i0).1, (H i0).2.1, fun m1 e => hn fun i => (H i).2.2 m1 e⟩
    | [k, 1] => rcases S with _ | ⟨x | x | x, _ | ⟨y | y | y, S⟩⟩ <;> first | exact (H i0).elim | exact ⟨(H i0).1, (H i0).2.1, fun m1 e => hn fun i => (H i).2.2 m1 e⟩
    | [k, 2] => rcases S with _ | ⟨x | x | x, _ | ⟨y | y | y, S⟩⟩ <;> first | exact (H i0).elim | exact ⟨(H i0).1, (H i0).2.1, fun m1 e => hn fun i => (H i).2.2 m1 e⟩
    | [k, 3] => rcases S with _ | ⟨x | x | x, _ | ⟨y | y | y, S⟩⟩ <;> first | exact (H i0).elim | exact ⟨(H i0).1, (H i0).2.1, (H i0).2.2.1, fun m1 e => hn fun i => (H i).2.2.2 m1 e⟩
    | [k, t + 4] => exact (H i0).elim
  have hget : ∀ c ts, (∀ i, ze_getf c ts n (nxt i) L S m h) → ze_getf c ts n nxt' L S m h := by
    intro c ts H
    match ts with
    | [] => rcases S with _ | ⟨x | x | x, S⟩ <;> exact (H i0).elim
    | [_] => rcases S with _ | ⟨x | x | x, S⟩ <;> exact (H i0).elim
    | _ :: _ :: _ :: _ => rcases S with _ | ⟨x | x | x, S⟩ <;> exact (H i0).elim
    | [k, 0] => rcases S with _ | ⟨x | x | x, S⟩ <;> first | exact (H i0).elim | exact ⟨(H i0).1, hn fun i => (H i).2⟩
    | [k, 1] => rcases S with _ | ⟨x | x | x, S⟩ <;> first | exact (H i0).elim | exact ⟨(H i0).1, hn fun i => (H i).2⟩
    | [k, 2] => rcases S with _ | ⟨x | x | x, S⟩ <;> first | exact (H i0).elim | exact ⟨(H i0).1, hn fun i => (H i).2⟩
    | [k, t + 3] => rcases S with _ | ⟨x | x | x, S⟩ <;> first | exact (H i0).elim | exact ⟨(H i0).1, hn fun i => (H i).2⟩
  have hald : ∀ c t, (∀ i, ze_ald c t n (nxt i) L S m h) → ze_ald c t n nxt' L S m h := by
    intro c t H
    rcases S with _ | ⟨x | x | x, _ | ⟨y | y | y, S⟩⟩ <;> match t with
    | 0 => first | exact (H i0).elim | exact ⟨(H i0).1, (H i0).2.1, (H i0).2.2.1, hn fun i => (H i).2.2.2⟩
    | 1 => first | exact (H i0).elim | exact ⟨(H i0).1, (H i0).2.1, (H i0).2.2.1, hn fun i => (H i).2.2.2⟩
    | t + 2 => first | exact (H i0).elim | exact ⟨(H i0).1, (H i0).2.1, (H i0).2.2.1, hn fun i => (H i).2.2.2⟩
  have hast : ∀ c, (∀ i, ze_ast c n (nxt i) L S m h) → ze_ast c n nxt' L S m h := by
    intro c H
    unfold ze_ast at H ⊢
    split
    · rcases S with _ | ⟨x | x | x, _ | ⟨y | y | y, _ | ⟨z | z | z, S⟩⟩⟩ <;> first | exact (H i0).elim | exact ⟨(H i0).1, (H i0).2.1, (H i0).2.2.1, (H i0).2.2.2.1, fun m1 e => hn fun i => (H i).2.2.2.2 m1 e⟩
    · rcases S with _ | ⟨x | x | x, _ | ⟨y | y | y, _ | ⟨z | z | z, S⟩⟩⟩ <;> first | exact (H i0).elim | exact ⟨(H i0).1, (H i0).2.1, (H i0).2.2.1, (H i0).2.2.2.1, (H i0).2.2.2.2.1, fun m1 e => hn fun i => (H i).2.2.2.2.2 m1 e⟩
    · rcases S with _ | ⟨x | x | x, _ | ⟨y | y | y, _ | ⟨z | z | z, S⟩⟩⟩ <;> first | exact (H i0).elim | exact ⟨(H i0).1, (H i0).2.1, (H i0).2.2.1, (H i0).2.2.2.1, fun m1 e => hn fun i => (H i).2.2.2.2 m1 e⟩
    · rename_i n1 n2 n3
      have H' : ∀ i, (match S with
        | .inl v :: .inl i' :: .inr (.inr a) :: S => kd h a = 101 ∧ 0 < a ∧ 0 ≤ i' ∧ i' < ln h a ∧ ∀ m1, m1 = zwr m a i' v → (nxt i) n L S m1 h
        | _ => False) := by
        intro i
        have := H i
        split at this <;> first | exact absurd rfl n1 | exact absurd rfl n2 | exact absurd rfl n3 | exact this
      clear H
      rcases S with _ | ⟨x | x | x, _ | ⟨y | y | y, _ | ⟨z | z | z, S⟩⟩⟩ <;> first | exact (H' i0).elim | exact ⟨(H' i0).1, (H' i0).2.1, (H' i0).2.2.1, (H' i0).2.2.2.1, fun m1 e => hn fun i => (H' i).2.2.2.2 m1 e⟩
  have htwo : ∀ f, (∀ i, ze_two f n (nxt i) L S m h) → ze_two f n nxt' L S m h := by
    intro f H
    rcases S with _ | ⟨x | x | x, _ | ⟨y | y | y, S⟩⟩ <;> first | exact (H i0).elim | skip
    revert H
    unfold ze_two
    simp only []
    cases Nat.ble (zwid S) 8
    · exact fun H => (H i0).elim
    · exact fun H => hn H
  have hret : ∀ t, (∀ i, ze_ret t (ret i) S m h) → ze_ret t ret' S m h := by
    intro t H
    rcases S with _ | ⟨x | x | x, _ | ⟨y, S⟩⟩ <;> first | exact (H i0).elim | skip
    unfold ze_ret at H ⊢
    by_cases h3 : t = 3
    · subst h3; exact ⟨(H i0).1, hr fun i => (H i).2⟩
    · by_cases h4 : t = 4
      · subst h4; exact ⟨(H i0).1, hr fun i => (H i).2⟩
      · by_cases h5 : t = 5
        · subst h5; exact ⟨(H i0).1, hr fun i => (H i).2⟩
        · simp only [] at H ⊢
          exact hr H
  have hacopy : (∀ i, ze_acopy n (nxt i) L S m h) → ze_acopy n nxt' L S m h := by
    intro H
    match S with
    | .inl len :: .inl dp :: .inr (.inr b) :: .inl sp :: .inr (.inr a) :: S =>
      revert H
      unfold ze_acopy
      simp only []
      cases Nat.ble (zwid S) 8
      · exact fun H => (H i0).elim
      · intro H
        obtain ⟨q1, q2, q3, q4, q5, q6, q7, q8, q9, q10, _⟩ := H i0
        exact ⟨q1, q2, q3, q4, q5, q6, q7, q8, q9, q10, fun m1 e => hn fun i => (H i).2.2.2.2.2.2.2.2.2.2 m1 e⟩
    | [] => exact (H i0).elim
    | [x] => rcases x with x | x | x <;> exact (H i0).elim
    | [x, y] => rcases x with x | x | x <;> rcases y with y | y | y <;> exact (H i0).elim
    | [x, y, z] => rcases x with x | x | x <;> rcases y with y | y | y <;> rcases z with z | z | z <;> exact (H i0).elim
    | [x, y, z, w] => rcases x with x | x | x <;> rcases y with y | y | y <;> rcases z with z | z | z <;> rcases w with w | w | w <;> exact (H i0).elim
    | .inr (.inl _) :: _ :: _ :: _ :: _ :: _ => exact (H i0).elim
    | .inr (.inr _) :: _ :: _ :: _ :: _ :: _ => exact (H i0).elim
    | .inl _ :: .inr (.inl _) :: _ :: _ :: _ :: _ => exact (H i0).elim
    | .inl _ :: .inr (.inr _) :: _ :: _ :: _ :: _ => exact (H i0).elim
    | .inl _ :: .inl _ :: .inl _ :: _ :: _ :: _ => exact (H i0).elim
    | .inl _ :: .inl _ :: .inr (.inl _) :: _ :: _ :: _ => exact (H i0).elim
    | .inl _ :: .inl _ :: .inr (.inr _) :: .inr (.inl _) :: _ :: _ => exact (H i0).elim
    | .inl _ :: .inl _ :: .inr (.inr _) :: .inr (.inr _) :: _ :: _ => exact (H i0).elim
    | .inl _ :: .inl _ :: .inr (.inr _) :: .inl _ :: .inl _ :: _ => exact (H i0).elim
    | .inl _ :: .inl _ :: .inr (.inr _) :: .inl _ :: .inr (.inl _) :: _ => exact (H i0).elim
  have hif : ∀ c t, (∀ i, ze_if c t n (nxt i) L S m h) → ze_if c t n nxt' L S m h := by
    intro c t H
    rcases S with _ | ⟨x | x | x, S⟩ <;> first | exact (H i0).elim | exact ⟨fun q => hn fun i => (H i).1 q, fun q => hn fun i => (H i).2 q⟩
  have hicmp : ∀ c t, (∀ i, ze_icmp c t n (nxt i) L S m h) → ze_icmp c t n nxt' L S m h := by
    intro c t H
    rcases S with _ | ⟨x | x | x, _ | ⟨y | y | y, S⟩⟩ <;> first | exact (H i0).elim | exact ⟨fun q => hn fun i => (H i).1 q, fun q => hn fun i => (H i).2 q⟩
  have hnull : ∀ t u, (∀ i, ze_null t u (nxt i) L S m h) → ze_null t u nxt' L S m h := by
    intro c t H
    rcases S with _ | ⟨x | x | x, S⟩ <;> first | exact (H i0).elim | exact ⟨fun q => hn fun i => (H i).1 q, fun q => hn fun i => (H i).2 q⟩
  have hun : ∀ f, (∀ i, ze_un f n (nxt i) L S m h) → ze_un f n nxt' L S m h := by
    intro f H
    rcases S with _ | ⟨x | x | x, S⟩ <;> first | exact (H i0).elim | exact hn H
  have hoi : (∀ i, ze_oinit n (nxt i) L S m h) → ze_oinit n nxt' L S m h := by
    intro H
    rcases S with _ | ⟨x | x | x, S⟩ <;> first | exact (H i0).elim | skip
    revert H
    unfold ze_oinit
    simp only []
    cases Nat.ble (zwid S) 8
    · exact fun H => (H i0).elim
    · exact fun H => ⟨(H i0).1, hn fun i => (H i).2⟩
  have hdup : (∀ i, ze_dup n (nxt i) L S m h) → ze_dup n nxt' L S m h := by
    intro H
    rcases S with _ | ⟨x | x | x, S⟩ <;> first | exact (H i0).elim | exact hn H
  have hpop : (∀ i, ze_pop n (nxt i) L S m h) → ze_pop n nxt' L S m h := by
    intro H
    rcases S with _ | ⟨x | x | x, S⟩ <;> first | exact (H i0).elim | exact hn H
  have hdup2 : (∀ i, ze_dup2 n (nxt i) L S m h) → ze_dup2 n nxt' L S m h := by
    intro H
    rcases S with _ | ⟨x | x | x, _ | ⟨y | y | y, S⟩⟩ <;> first | exact (H i0).elim | exact hn H
  match op with
  | 0 => exact hn H
  | 1 => exact hload 0 H
  | 2 => exact hload 2 H
  | 3 => exact hload 1 H
  | 4 => exact hstore 0 H
  | 5 => exact hstore 2 H
  | 6 => exact hstore 1 H
  | 7 => exact hinc H
  | 8 => rcases S with _ | ⟨x | x | x, _ | ⟨y | y | y, S⟩⟩ <;> first | exact (H i0).elim | exact hn H
  | 9 => rcases S with _ | ⟨x | x | x, _ | ⟨y | y | y, S⟩⟩ <;> first | exact (H i0).elim | exact ⟨(H i0).1, hn fun i => (H i).2⟩
  | 10 => rcases S with _ | ⟨x | x | x, _ | ⟨y | y | y, S⟩⟩ <;> first | exact (H i0).elim | exact ⟨(H i0).1, hn fun i => (H i).2⟩
  | 11 => exact hun _ H
  | 12 => match a with
    | 0 => exact hun _ H
    | a + 1 => exact hun _ H
  | 13 => rcases S with _ | ⟨x | x | x, S⟩ <;> first | exact (H i0).elim | exact hn H
  | 14 => rcases S with _ | ⟨x | x | x, _ | ⟨y | y | y, S⟩⟩ <;> first | exact (H i0).elim | exact hn H
  | 15 => rcases S with _ | ⟨x | x | x, _ | ⟨y | y | y, S⟩⟩ <;> first | exact (H i0).elim | exact hn H
  | 16 => exact hn H
  | 17 => exact hif _ _ H
  | 18 => exact hicmp _ _ H
  | 19 => exact hnull _ _ H
  | 20 => exact hnull _ _ H
  | 21 => exact hn H
  | 22 =>
    match ts with
    | [] => rcases S with _ | ⟨x | x | x, S⟩ <;> exact (H i0).elim
    | e :: ts => rcases S with _ | ⟨x | x | x, S⟩ <;> first | exact (H i0).elim | exact ze_sw_all hn ts _ H
  | 23 => exact hget _ _ H
  | 24 => exact hput _ _ H
  | 25 =>
    match ts with
    | [] => exact (H i0).elim
    | [s] => exact fun m1 h1 e1 e2 => hn fun i => H i m1 h1 e1 e2
    | _ :: _ :: _ => exact (H i0).elim
  | 26 => rcases S with _ | ⟨x | x | x, S⟩ <;> first | exact (H i0).elim | exact ⟨(H i0).1, (H i0).2.1, fun m1 h1 e1 e2 => hn fun i => (H i).2.2 m1 h1 e1 e2⟩
  | 27 =>
    by_cases ha : a = 104
    · subst ha; exact hald _ 1 H
    · have e : ∀ (nx : zN), (zex (27, a, b, ts, n) nx = zex (27, a, b, ts, n) nx) := fun _ => rfl
      have e : ∀ (nx : zN) (cl : zC) (rt : zQ), zex (27, a, b, ts, n) nx cl rt L S m h = ze_ald a 0 n nx L S m h := by
        intro nx cl rt
        show (match a with | 104 => ze_ald 104 1 n nx L S m h | _ => ze_ald a 0 n nx L S m h) = _
        split
        · exact absurd rfl ha
        · rfl
      rw [e]
      exact hald _ 0 fun i => by have := H i; rw [e] at this; exact this
  | 28 => exact hast _ H
  | 29 => rcases S with _ | ⟨x | x | x, _ | ⟨y | y | y, S⟩⟩ <;> first | exact (H i0).elim | exact ⟨(H i0).1, (H i0).2.1, (H i0).2.2.1, hn fun i => (H i).2.2.2⟩
  | 30 => rcases S with _ | ⟨x | x | x, _ | ⟨y | y | y, _ | ⟨z | z | z, S⟩⟩⟩ <;> first | exact (H i0).elim | exact ⟨(H i0).1, (H i0).2.1, (H i0).2.2.1, (H i0).2.2.2.1, (H i0).2.2.2.2.1, fun m1 e => hn fun i => (H i).2.2.2.2.2 m1 e⟩
  | 31 => rcases S with _ | ⟨x | x | x, S⟩ <;> first | exact (H i0).elim | exact ⟨(H i0).1, hn fun i => (H i).2⟩
  | 32 => exact hdup H
  | 33 => exact hdup2 H
  | 34 => exact hpop H
  | 35 => exact hcall _ _ H
  | 36 => rcases S with _ | ⟨x, S⟩ <;> first | exact hr H | exact (H i0).elim
  | 37 => exact hret _ H
  | 38 => rcases S with _ | ⟨x | x | x, _ | ⟨y, S⟩⟩ <;> first | exact (H i0).elim | exact hr H
  | 39 => rcases S with _ | ⟨x | x | x, _ | ⟨y, S⟩⟩ <;> first | exact (H i0).elim | exact hr H
  | 40 => exact hoi H
  | 41 => exact hn H
  | 42 => exact hacopy H
  | 43 => exact (H i0).elim
  | 44 => rcases S with _ | ⟨x | x | x, S⟩ <;> first | exact (H i0).elim | exact ⟨(H i0).1, (H i0).2.1, hn fun i => (H i).2.2⟩
  | 45 => rcases S with _ | ⟨x | x | x, S⟩ <;> first | exact (H i0).elim | exact ⟨(H i0).1, (H i0).2.1, hn fun i => (H i).2.2⟩
  | 46 => exact htwo _ H
  | 47 => exact htwo _ H
  | 48 => exact fun u hu => hn fun i => H i u hu
  | _ + 49 => exact (H i0).elim
theorem WP_inv {d k pc : Nat} {L : zL} {S : List zV} {m : zM} {h : zH} {P : zQ} (H : WP d k pc L S m h P) : zex (zcode k pc) (fun pc L S m h => WP d k pc L S m h P) (zcal WP d) P L S m h := by
  let X : zX := fun d k pc L S m h P => WP d k pc L S m h P ∧ zex (zcode k pc) (fun pc L S m h => WP d k pc L S m h P) (zcal WP d) P L S m h
  have cl : zClo X := by
    intro d k pc L S m h P G
    have : zex (zcode k pc) (fun pc L S m h => WP d k pc L S m h P) (zcal WP d) P L S m h := by
      refine zex_mono Eq (fun e q => by rw [← e]; exact q) (fun a v e => by rw [e]) (fun {pc L L' S m h} e q => by rw [← e]; exact q.1) (fun {k A m h P P'} hP q => ?_) (fun q => q) rfl G
      obtain ⟨q1, d', q2, P0, q3, q4⟩ := q
      exact ⟨q1, d', q2, P0, q3.1, fun r m h z => hP r m h (q4 r m h z)⟩
    exact ⟨WP_clo d k pc L S m h P this, this⟩
  exact (H X cl).2
theorem WP_all {ι : Type} (i0 : ι) {d k pc : Nat} {L : zL} {S : List zV} {m : zM} {h : zH} {P : ι → zQ} (H : ∀ i, WP d k pc L S m h (P i)) : WP d k pc L S m h fun r m h => ∀ i, P i r m h := by
  let X : zX := fun d k pc L S m h P => WP d k pc L S m h P ∧ ∀ (ι : Type) (P : ι → zQ) (_ : ι), (∀ i, WP d k pc L S m h (P i)) → WP d k pc L S m h fun r m h => ∀ i, P i r m h
  have cl : zClo X := by
    intro d k pc L S m h P G
    have w : zex (zcode k pc) (fun pc L S m h => WP d k pc L S m h P) (zcal WP d) P L S m h := by
      refine zex_mono Eq (fun e q => by rw [← e]; exact q) (fun a v e => by rw [e]) (fun {pc L L' S m h} e q => by rw [← e]; exact q.1) (fun {k A m h P P'} hP q => ?_) (fun q => q) rfl G
      obtain ⟨q1, d', q2, P0, q3, q4⟩ := q
      exact ⟨q1, d', q2, P0, q3.1, fun r m h z => hP r m h (q4 r m h z)⟩
    refine ⟨WP_clo d k pc L S m h P w, fun ι R i0 HR => WP_clo _ _ _ _ _ _ _ _ ?_⟩
    refine zex_all (ι := Option ι) none (nxt := fun o => match o with | none => fun pc L S m h => X d k pc L S m h P | some i => fun pc L S m h => WP d k pc L S m h (R i)) (cal := fun o => match o with | none => zcal X d | some i => zcal WP d) (ret := fun o => match o with | none => P | some i => R i) ?_ ?_ ?_ ?_
    · intro pc L S m h q
      exact (q none).2 ι R i0 fun i => q (some i)
    · intro k A m h Q Q' hQ q
      obtain ⟨q1, d', q2, P0, q3, q4⟩ := q none
      have qs : ∀ i, ∃ P0, WP d' k 0 (zpad (zmaxl k) (zent A)) [] m h P0 ∧ ∀ r m1 h1, P0 r m1 h1 → Q (some i) r m1 h1 := by
        intro i
        obtain ⟨u1, d2, u2, P2, u3, u4⟩ := q (some i)
        have : d2 = d' := by omega
        subst this
        exact ⟨P2, u3, u4⟩
      have qc := fun i => Classical.choose_spec (qs i)
      refine ⟨q1, d', q2, _, q3.2 (Option ι) (fun o => match o with | none => P0 | some i => Classical.choose (qs i)) none (fun o => ?_), fun r m1 h1 z => hQ r m1 h1 fun o => ?_⟩
      · cases o with
        | none => exact q3.1
        | some i => exact (qc i).1
      · cases o with
        | none => exact q4 r m1 h1 (z none)
        | some i => exact (qc i).2 r m1 h1 (z (some i))
    · intro r m h q i
      exact q (some i)
    · intro o
      cases o with
      | none => exact G
      | some i => exact WP_inv (HR i)
  exact (H i0 X cl).2 ι P i0 H
theorem zcal_all {ι : Type} (i0 : ι) {d k : Nat} {A : List zV} {m : zM} {h : zH} {P : ι → zQ} (H : ∀ i, zcal WP d k A m h (P i)) : zcal WP d k A m h fun r m h => ∀ i, P i r m h := by
  obtain ⟨q1, d', q2, _⟩ := H i0
  have qs : ∀ i, ∃ P0, WP d' k 0 (zpad (zmaxl k) (zent A)) [] m h P0 ∧ ∀ r m1 h1, P0 r m1 h1 → P i r m1 h1 := by
    intro i
    obtain ⟨u1, d2, u2, P2, u3, u4⟩ := H i
    have : d2 = d' := by omega
    subst this
    exact ⟨P2, u3, u4⟩
  have qc := fun i => Classical.choose_spec (qs i)
  exact ⟨q1, d', q2, _, WP_all i0 (fun i => (qc i).1), fun r m1 h1 z i => (qc i).2 r m1 h1 (z i)⟩
theorem zcal_all0 {ι : Type} (i0 : ι) {d k : Nat} {A : List zV} {m : zM} {h : zH} {P : ι → zM → zH → Prop} (H : ∀ i, zcal WP d k A m h (zk0 (P i))) : zcal WP d k A m h (zk0 fun m h => ∀ i, P i m h) :=
  zcal_weak (zcal_all i0 H) fun r m h q => ⟨(q i0).1, fun i => (q i).2⟩

/-! THE MODEL: months. -/
/-- turns that engines can work, one each -/
def zrch (g : zM) (set those T : Nat) : Nat → Nat → Prop
  | 0, got => got = 0
  | e + 1, got => zrch g set those T e got ∨ (set.testBit e = true ∧ ∃ k, k < T ∧ those.testBit k = true ∧ got.testBit k = true ∧ (g 135 (12 * (g 83 ((e : Int))) + (k : Int))) ≠ 0 ∧ zrch g set those T e (got ^^^ 2 ^ k))
theorem xor_lt {x k n : Nat} (hx : x < 2 ^ n) (h : x.testBit k = true) : x ^^^ 2 ^ k < 2 ^ n ∧ x ^^^ 2 ^ k < x ∧ (x ^^^ 2 ^ k) ||| 2 ^ k = x := by
  have kn : k < n := by
    apply Classical.byContradiction
    intro w
    rw [Nat.testBit_lt_two_pow (Nat.lt_of_lt_of_le hx (Nat.pow_le_pow_right (by decide) (by omega)))] at h
    simp at h
  have e : (x ^^^ 2 ^ k) ||| 2 ^ k = x := by
    apply Nat.eq_of_testBit_eq
    intro j
    rw [tb_or, tb_xor]
    by_cases z : k = j
    · subst z; simp [h]
    · simp [z]
  have a : (x ^^^ 2 ^ k) &&& x = x ^^^ 2 ^ k := by
    apply Nat.eq_of_testBit_eq
    intro j
    rw [Nat.testBit_and, tb_xor]
    by_cases z : k = j
    · subst z; simp [h]
    · simp [z]
  have le : x ^^^ 2 ^ k ≤ x := by
    have : (x ^^^ 2 ^ k) &&& x ≤ x := Nat.and_le_right
    rw [a] at this; exact this
  have ne : x ^^^ 2 ^ k ≠ x := fun w => by
    have : (x ^^^ 2 ^ k).testBit k = true := by rw [w]; exact h
    rw [tb_xor, h] at this
    simp at this
  have lt : x ^^^ 2 ^ k < x := by omega
  exact ⟨by omega, lt, e⟩
theorem zrch_1 {g : zM} {set those T : Nat} : ∀ (e got : Nat), zrch g set those T e got → ∃ f : Nat → Nat, ∀ k, got.testBit k = true → (k < T ∧ those.testBit k = true) ∧ f k < e ∧ set.testBit (f k) = true ∧ (g 135 (12 * (g 83 ((f k : Int))) + (k : Int))) ≠ 0 ∧ ∀ j, got.testBit j = true → f j = f k → j = k
  | 0, got, h => ⟨fun _ => 0, fun k hk => by
    have h : got = 0 := h
    rw [h] at hk; simp at hk⟩
  | e + 1, got, h => by
    rcases h with h | ⟨hs, k, h1, h2, h3, h4, h5⟩
    · obtain ⟨f, hf⟩ := zrch_1 e got h
      exact ⟨f, fun k hk => ⟨(hf k hk).1, by have := (hf k hk).2.1; omega, (hf k hk).2.2⟩⟩
    · obtain ⟨f, hf⟩ := zrch_1 e _ h5
      have old : ∀ j, got.testBit j = true → j ≠ k → (got ^^^ 2 ^ k).testBit j = true := fun j hj hn => by
        rw [tb_xor, hj]
        have : ¬ k = j := fun w => hn w.symm
        simp [this]
      refine ⟨fun j => if j = k then e else f j, fun j hj => ?_⟩
      dsimp only
      by_cases z : j = k
      · rw [if_pos z]
        refine ⟨by rw [z]; exact ⟨h1, h2⟩, by omega, hs, by rw [z]; exact h4, fun i hi hh => ?_⟩
        by_cases q : i = k
        · omega
        · rw [if_neg q] at hh
          have := (hf i (old i hi q)).2.1
          omega
      · rw [if_neg z]
        have c := hf j (old j hj z)
        refine ⟨c.1, by omega, c.2.2.1, c.2.2.2.1, fun i hi hh => ?_⟩
        by_cases q : i = k
        · rw [if_pos q] at hh; omega
        · rw [if_neg q] at hh
          exact c.2.2.2.2 i (old i hi q) hh
theorem zrch_2 {g : zM} {set those T : Nat} {f : Nat → Nat} : ∀ (e got : Nat), (∀ k, got.testBit k = true → (k < T ∧ those.testBit k = true) ∧ f k < e ∧ set.testBit (f k) = true ∧ (g 135 (12 * (g 83 ((f k : Int))) + (k : Int))) ≠ 0 ∧ ∀ j, got.testBit j = true → f j = f k → j = k) → zrch g set those T e got
  | 0, got, h => by
    show got = 0
    apply Nat.eq_of_testBit_eq
    intro j
    rw [Nat.zero_testBit]
    cases hb : got.testBit j with
    | false => rfl
    | true => have := (h j hb).2.1; omega
  | e + 1, got, h => by
    by_cases z : ∃ k, got.testBit k = true ∧ f k = e
    · obtain ⟨k, hk, hf⟩ := z
      have c := h k hk
      rw [hf] at c
      refine Or.inr ⟨c.2.2.1, k, c.1.1, c.1.2, hk, c.2.2.2.1, zrch_2 (f := f) e _ (fun j hj => ?_)⟩
      rw [tb_xor] at hj
      have jk : ¬ k = j := fun w => by subst w; rw [hk] at hj; simp at hj
      have hj : got.testBit j = true := by simpa [jk] using hj
      have cj := h j hj
      refine ⟨cj.1, ?_, cj.2.2.1, cj.2.2.2.1, fun i hi hh => cj.2.2.2.2 i ?_ hh⟩
      · have : f j ≠ e := fun w => jk (c.2.2.2.2 j hj w).symm
        omega
      · rw [tb_xor] at hi
        by_cases q : k = i
        · subst q; rw [hk] at hi; simp at hi
        · simpa [q] using hi
    · refine Or.inl (zrch_2 (f := f) e got (fun k hk => ?_))
      have c := h k hk
      have : f k ≠ e := fun w => z ⟨k, hk, w⟩
      exact ⟨c.1, by omega, c.2.2⟩
theorem zrch_iff {g : zM} {set those T E : Nat} (hE : E ≤ 9) (ht : those < 2 ^ T) : zrch g set those T E those ↔ zmav (fun i => zma2 g ((ztr those T).getD i 0) E) (ztr those T).length set := by
  have bt : ∀ k, those.testBit k = true → ∃ i, i < (ztr those T).length ∧ (ztr those T).getD i 0 = k := fun k hk => by
    have : k < T := by
      apply Classical.byContradiction
      intro w
      rw [Nat.testBit_lt_two_pow (Nat.lt_of_lt_of_le ht (Nat.pow_le_pow_right (by decide) (by omega)))] at hk
      simp at hk
    exact gdn_of (ztr_mem.2 ⟨this, hk⟩)
  constructor
  · intro h
    obtain ⟨f, hf⟩ := zrch_1 E those h
    refine ⟨fun i => f ((ztr those T).getD i 0), fun i hi => ?_⟩
    have mi := ztr_mem.1 (gdn_mem hi)
    have c := hf _ mi.2
    refine ⟨Nat.lt_of_lt_of_le c.2.1 hE, zma2_t E |>.2 ⟨c.2.1, c.2.2.2.1⟩, c.2.2.1, fun j hj hh => ?_⟩
    exact ztr_inj hj hi (c.2.2.2.2 _ (ztr_mem.1 (gdn_mem hj)).2 hh)
  · rintro ⟨f, hf⟩
    refine zrch_2 (f := fun k => if h : ∃ i, i < (ztr those T).length ∧ (ztr those T).getD i 0 = k then f (Classical.choose h) else 0) E those (fun k hk => ?_)
    have hx := bt k hk
    have s := Classical.choose_spec hx
    have mk := ztr_mem.1 (gdn_mem s.1)
    have c := hf _ s.1
    have mt := (zma2_t E).1 c.2.1
    rw [s.2] at mk mt
    rw [dif_pos hx]
    refine ⟨mk, mt.1, c.2.2.1, mt.2, fun j hj hh => ?_⟩
    have hy := bt j hj
    have s2 := Classical.choose_spec hy
    rw [dif_pos hy] at hh
    have := c.2.2.2 _ s2.1 hh
    rw [this, s.2] at s2
    exact s2.2.symm
/-- a flag -/
def zfg2 (v : Int) (p : Prop) : Prop := (v = 0 ∨ v = 1) ∧ (v = 1 ↔ p)
theorem c_Mo_has {d : Nat} {m0 g : zM} {h : zH} {P : Int → zM → zH → Prop} {set those : Nat} (F0 : zFix m0) (L : zLay h) (A0 : zag m0 g) (G : zgood g) (hcl : ∀ e, 0 ≤ e → e < (g 54 47) → 0 ≤ (g 83 e) ∧ (g 83 e) ≤ 5) (hs : set < 512) (ht : those < 4096)
    (K : ∀ v m', (∀ i j, i ≠ 140 → m' i j = m0 i j) → zfg2 v (zrch g set those ((g 54 52)).toNat ((g 54 47)).toNat those) → P v m' h) : zcal WP (d + 1) n_Mo_has [.inr (.inr 54), .inl (set : Int), .inl (those : Int)] m0 h (zk1 P) := by
  have ge := G.1
  have gt := G.2.2.1
  have pt := lt12 (k := ((g 54 52)).toNat) (by omega)
  generalize hT : ((g 54 52)).toNat = T at *
  have fF : ∀ m : zM, (∀ i j, i ≠ 140 → m i j = m0 i j) → zFix m := fun m w x j y => by rw [w x j (by have := zrv_ob y; omega)]; exact F0 x j y
  have fA : ∀ m : zM, (∀ i j, i ≠ 140 → m i j = m0 i j) → zag m g := fun m w x j y => by rw [w x j (fun z => by subst z; exact Bool.noConfusion y)]; exact A0 x j y
  -- the engines
  have l34 : ∀ (r e : Nat) (m : zM), (e : Int) + r = (g 54 47) → (∀ i j, i ≠ 140 → m i j = m0 i j) → (∀ x : Nat, x < 4096 → zfg2 (m 140 (x : Int)) (zrch g set those T e x)) → q_Mo_has_34 d 54 (set : Int) (those : Int) 140 (e : Int) m h (zk1 P) := by
    intro r
    induction r with
    | zero =>
      intro e m hr w al
      have F := fF m w
      have A := fA m w
      apply s_Mo_has_34
      try simp (disch := omega) only [forall_eq, zwr_ap, zk0_ap, zk1_ap, zk2_ap, zk3_ap, Int.reduceEq, Int.reduceNe, Int.reduceLT, Int.reduceLE, Int.reduceNeg, Int.reduceAdd, Int.reduceSub, Int.reduceMul, reduceIte, ne_eq, and_true, true_and, and_false, false_and, not_true_eq_false, not_false_eq_true, forall_const, true_or, or_true, false_or, or_false, imp_self, implies_true, exists_eq_left', zI1, zI2, Int.add_sub_cancel, w32_id, Classical.not_not, k54 L, A 54 47 rfl, k140 L, l140 L]
      refine ⟨fun _ => ⟨by omega, by omega, (al those ht).1, K _ m w ?_⟩, fun z => by omega⟩
      rw [show ((g 54 47)).toNat = e by omega]
      exact al those ht
    | succ r ih =>
      intro e m hr w al
      have i2 := ih (e + 1)
      have cl := hcl (e : Int) (by omega) (by omega)
      -- one engine
      have l60 : ∀ (c : Nat) (m2 : zM), c ≤ 4096 → set.testBit e = true → (∀ i j, i ≠ 140 → m2 i j = m0 i j) → (∀ x : Nat, x < 4096 → zfg2 (m2 140 (x : Int)) (zrch g set those T e x ∨ ∃ k, k < T ∧ those.testBit k = true ∧ x.testBit k = true ∧ (g 135 (12 * (g 83 ((e : Int))) + (k : Int))) ≠ 0 ∧ c ≤ x ^^^ 2 ^ k ∧ zrch g set those T e (x ^^^ 2 ^ k))) → q_Mo_has_60 d 54 (set : Int) (those : Int) 140 (e : Int) ((c : Int) - 1) m2 h (zk1 P) := by
        intro c
        induction c with
        | zero =>
          intro m2 _ hb w2 al2
          apply s_Mo_has_60
          refine ⟨fun _ => ?_, fun z => absurd (by omega) z⟩
          rw [w32_id (by omega) (by omega), show (e : Int) + 1 = ((e + 1 : Nat) : Int) by omega]
          refine i2 m2 (by omega) w2 (fun x hx => ⟨(al2 x hx).1, (al2 x hx).2.trans ?_⟩)
          constructor
          · rintro (q | ⟨k, q1, q2, q3, q4, _, q5⟩)
            · exact Or.inl q
            · exact Or.inr ⟨hb, k, q1, q2, q3, q4, q5⟩
          · rintro (q | ⟨_, k, q1, q2, q3, q4, q5⟩)
            · exact Or.inl q
            · exact Or.inr ⟨k, q1, q2, q3, q4, Nat.zero_le _, q5⟩
        | succ c ihc =>
          intro m2 hc hb w2 al2
          have alc := al2 c (by omega)
          have old : zrch g set those T e c ∨ (∃ k, k < T ∧ those.testBit k = true ∧ c.testBit k = true ∧ (g 135 (12 * (g 83 ((e : Int))) + (k : Int))) ≠ 0 ∧ c + 1 ≤ c ^^^ 2 ^ k ∧ zrch g set those T e (c ^^^ 2 ^ k)) ↔ zrch g set those T e c := by
            constructor
            · rintro (q | ⟨k, _, _, q3, _, q5, _⟩)
              · exact q
              · have := (xor_lt (n := 12) (by omega) q3).2.1
                omega
            · exact Or.inl
          rw [show ((c + 1 : Nat) : Int) - 1 = (c : Int) by omega]
          -- its turns
          have l78 : ∀ (t k : Nat) (m3 : zM), k + t = T → zrch g set those T e c → (∀ i j, i ≠ 140 → m3 i j = m0 i j) → (∀ x : Nat, x < 4096 → zfg2 (m3 140 (x : Int)) ((zrch g set those T e x ∨ ∃ k, k < T ∧ those.testBit k = true ∧ x.testBit k = true ∧ (g 135 (12 * (g 83 ((e : Int))) + (k : Int))) ≠ 0 ∧ c + 1 ≤ x ^^^ 2 ^ k ∧ zrch g set those T e (x ^^^ 2 ^ k)) ∨ ∃ k', k' < k ∧ those.testBit k' = true ∧ x.testBit k' = true ∧ (g 135 (12 * (g 83 ((e : Int))) + (k' : Int))) ≠ 0 ∧ x ^^^ 2 ^ k' = c)) → q_Mo_has_78 d 54 (set : Int) (those : Int) 140 (e : Int) (c : Int) (k : Int) m3 h (zk1 P) := by
            intro t
            induction t with
            | zero =>
              intro k m3 hk rc w3 al3
              have A3 := fA m3 w3
              have t3 : m3 54 52 = T := by rw [A3 54 52 rfl]; omega
              apply s_Mo_has_78
              rw [t3]
              refine ⟨k54 L, fun _ => ?_, fun z => by omega⟩
              rw [w32_id (by omega) (by omega), show (c : Int) + -1 = (c : Int) - 1 by omega]
              refine ihc m3 (by omega) hb w3 (fun x hx => ⟨(al3 x hx).1, (al3 x hx).2.trans ?_⟩)
              constructor
              · rintro ((q | ⟨k1', q1, q2, q3, q4, q5, q6⟩) | ⟨k1', q1, q2, q3, q4, q5⟩)
                · exact Or.inl q
                · exact Or.inr ⟨k1', q1, q2, q3, q4, by omega, q6⟩
                · exact Or.inr ⟨k1', by omega, q2, q3, q4, by omega, by rw [q5]; exact rc⟩
              · rintro (q | ⟨k1', q1, q2, q3, q4, q5, q6⟩)
                · exact Or.inl (Or.inl q)
                · by_cases y : x ^^^ 2 ^ k1' = c
                  · exact Or.inr ⟨k1', by omega, q2, q3, q4, y⟩
                  · exact Or.inl (Or.inr ⟨k1', q1, q2, q3, q4, by omega, q6⟩)
            | succ t iht =>
              intro k m3 hk rc w3 al3
              have F3 := fF m3 w3
              have A3 := fA m3 w3
              have t3 : m3 54 52 = T := by rw [A3 54 52 rfl]; omega
              have ec : m3 83 (e : Int) = (g 83 ((e : Int))) := A3 83 e rfl
              have em : m3 135 (12 * (g 83 ((e : Int))) + (k : Int)) = (g 135 (12 * (g 83 ((e : Int))) + (k : Int))) := A3 135 _ rfl
              have same : ¬ (those.testBit k = true ∧ c.testBit k = false ∧ (g 135 (12 * (g 83 ((e : Int))) + (k : Int))) ≠ 0) → q_Mo_has_78 d 54 (set : Int) (those : Int) 140 (e : Int) (c : Int) ((k + 1 : Nat) : Int) m3 h (zk1 P) := fun no => by
                refine iht (k + 1) m3 (by omega) rc w3 (fun x hx => ⟨(al3 x hx).1, (al3 x hx).2.trans ?_⟩)
                constructor
                · rintro (q | ⟨k1', q1, q2⟩)
                  · exact Or.inl q
                  · exact Or.inr ⟨k1', by omega, q2⟩
                · rintro (q | ⟨k1', q1, q2, q3, q4, q5⟩)
                  · exact Or.inl q
                  · by_cases y : k1' = k
                    · subst y
                      exfalso
                      refine no ⟨q2, ?_, q4⟩
                      rw [← q5, tb_xor, q3]; simp
                    · exact Or.inr ⟨k1', by omega, q2, q3, q4, q5⟩
              apply s_Mo_has_78
              rw [t3, zbit_n those k (by omega) (by omega), zbit_n c k (by omega) (by omega), f54_48 F3, ec, f54_109 F3, w32_id (x := 12 * (g 83 ((e : Int)))) (by omega) (by omega), w32_id (x := 12 * (g 83 ((e : Int))) + (k : Int)) (by omega) (by omega), em, w32_id (x := (k : Int) + 1) (by omega) (by omega), show (k : Int) + 1 = ((k + 1 : Nat) : Int) by omega]
              refine ⟨k54 L, fun z => by omega, fun _ => ⟨fun z => same (fun y => by rw [y.1] at z; exact z rfl), fun z => ⟨fun z2 => same (fun y => by rw [y.2.1] at z2; exact z2 rfl), fun z2 => ⟨k54 L, k54 L, k83 L, by omega, by rw [l83 L]; omega, k135 L, by omega, by rw [l135 L]; omega, fun z3 => same (fun y => y.2.2 z3), fun z3 => ?_⟩⟩⟩⟩
              have b1 : those.testBit k = true := by
                cases hb1 : those.testBit k with
                | true => rfl
                | false => rw [hb1] at z; exact absurd (by decide) z
              have b2 : c.testBit k = false := by
                cases hb1 : c.testBit k with
                | false => rfl
                | true => rw [hb1] at z2; exact absurd (by decide) z2
              have pk : 2 ^ k < 4096 := Nat.lt_of_lt_of_le (Nat.pow_lt_pow_right (by decide : 1 < 2) (by omega : k < T)) pt
              have oc : c ||| 2 ^ k < 4096 := Nat.or_lt_two_pow (n := 12) (by omega) (by omega)
              rw [zshl_n k (by omega), zor_n _ _ (by omega) (by omega)]
              refine ⟨Or.inr rfl, k140 L, by decide, by omega, by rw [l140 L]; omega, fun m4 e4 => ?_⟩
              refine iht (k + 1) m4 (by omega) rc (fun x j y => by rw [e4, zwr_ap, if_neg (by omega)]; exact w3 x j y) (fun x hx => ?_)
              by_cases y : x = c ||| 2 ^ k
              · subst y
                rw [e4, zwr_eq]
                refine ⟨Or.inr rfl, fun _ => Or.inr ⟨k, by omega, b1, by rw [tb_or]; simp, z3, ?_⟩, fun _ => rfl⟩
                apply Nat.eq_of_testBit_eq
                intro j
                rw [tb_xor, tb_or]
                by_cases q : k = j
                · subst q; rw [b2]; simp
                · simp [q]
              · rw [e4, zwr_ap, if_neg (by omega)]
                refine ⟨(al3 x hx).1, (al3 x hx).2.trans ?_⟩
                constructor
                · rintro (q | ⟨k1', q1, q2⟩)
                  · exact Or.inl q
                  · exact Or.inr ⟨k1', by omega, q2⟩
                · rintro (q | ⟨k1', q1, q2, q3, q4, q5⟩)
                  · exact Or.inl q
                  · by_cases y2 : k1' = k
                    · subst y2
                      exfalso
                      apply y
                      rw [← q5]
                      exact ((xor_lt (n := 12) (by omega) q3).2.2).symm
                    · exact Or.inr ⟨k1', by omega, q2, q3, q4, q5⟩
          apply s_Mo_has_60
          refine ⟨fun z => by omega, fun _ => ⟨k140 L, by omega, by rw [l140 L]; omega, fun z => ?_, fun z => ?_⟩⟩
          · have rc := old.1 (alc.2.1 (by have := alc.1; omega))
            refine l78 T 0 m2 (by omega) rc w2 (fun x hx => ⟨(al2 x hx).1, (al2 x hx).2.trans ?_⟩)
            constructor
            · exact Or.inl
            · rintro (q | ⟨k1', q1, _⟩)
              · exact q
              · omega
          · have nc : ¬ zrch g set those T e c := fun q => by
              have := alc.2.2 (old.2 q); omega
            rw [w32_id (by omega) (by omega), show (c : Int) + -1 = (c : Int) - 1 by omega]
            refine ihc m2 (by omega) hb w2 (fun x hx => ⟨(al2 x hx).1, (al2 x hx).2.trans ?_⟩)
            constructor
            · rintro (q | ⟨k1', q1, q2, q3, q4, q5, q6⟩)
              · exact Or.inl q
              · exact Or.inr ⟨k1', q1, q2, q3, q4, by omega, q6⟩
            · rintro (q | ⟨k1', q1, q2, q3, q4, q5, q6⟩)
              · exact Or.inl q
              · refine Or.inr ⟨k1', q1, q2, q3, q4, ?_, q6⟩
                by_cases y : x ^^^ 2 ^ k1' = c
                · rw [y] at q6; exact absurd q6 nc
                · omega
      have F := fF m w
      have A := fA m w
      have t3 : m 54 47 = (g 54 47) := A 54 47 rfl
      apply s_Mo_has_34
      rw [t3, zbit_n set e (by omega) (by omega)]
      refine ⟨k54 L, fun z => by omega, fun _ => ⟨fun z => ?_, fun z => ?_⟩⟩
      · have hb : set.testBit e = true := by
          cases hb1 : set.testBit e with
          | true => rfl
          | false => rw [hb1] at z; exact absurd rfl z
        refine l60 4096 m (by omega) hb w (fun x hx => ⟨(al x hx).1, (al x hx).2.trans ?_⟩)
        constructor
        · exact Or.inl
        · rintro (q | ⟨k1', q1, q2, q3, q4, q5, q6⟩)
          · exact q
          · have := (xor_lt (n := 12) (by omega) q3).1
            omega
      · have hb : ¬ set.testBit e = true := fun q => by rw [q] at z; exact z (by decide)
        rw [w32_id (by omega) (by omega), show (e : Int) + 1 = ((e + 1 : Nat) : Int) by omega]
        refine i2 m (by omega) w (fun x hx => ⟨(al x hx).1, (al x hx).2.trans ?_⟩)
        constructor
        · exact Or.inl
        · rintro (q | ⟨q, _⟩)
          · exact q
          · exact absurd q hb
  have l8 : ∀ (t i : Nat) (m : zM), i + t = 4096 → (∀ i j, i ≠ 140 → m i j = m0 i j) → (∀ x : Nat, x < i → m 140 (x : Int) = 0) → q_Mo_has_8 d 54 (set : Int) (those : Int) 140 (i : Int) m h (zk1 P) := by
    intro t
    induction t with
    | zero =>
      intro i m hi w al
      apply s_Mo_has_8
      refine ⟨fun _ => ⟨Or.inr rfl, k140 L, by decide, by decide, by rw [l140 L]; decide, fun m1 e1 => ?_⟩, fun z => by omega⟩
      refine l34 ((g 54 47)).toNat 0 m1 (by omega) (fun x j y => by rw [e1, zwr_ap, if_neg (by omega)]; exact w x j y) (fun x hx => ?_)
      by_cases z : x = 0
      · subst z; rw [e1]; exact ⟨Or.inr (zwr_eq _ _ _ _), fun _ => rfl, fun _ => zwr_eq _ _ _ _⟩
      · rw [e1, zwr_ap, if_neg (by omega), al x (by omega)]
        exact ⟨Or.inl rfl, fun q => absurd q (by decide), fun q => absurd q z⟩
    | succ t ih =>
      intro i m hi w al
      apply s_Mo_has_8
      refine ⟨fun z => by omega, fun _ => ⟨Or.inl rfl, k140 L, by decide, by omega, by rw [l140 L]; omega, fun m1 e1 => ?_⟩⟩
      rw [w32_id (by omega) (by omega), show (i : Int) + 1 = ((i + 1 : Nat) : Int) by omega]
      refine ih (i + 1) m1 (by omega) (fun x j y => by rw [e1, zwr_ap, if_neg (by omega)]; exact w x j y) (fun x hx => ?_)
      by_cases z : x = i
      · subst z; rw [e1, zwr_eq]
      · rw [e1, zwr_ap, if_neg (by omega)]; exact al x (by omega)
  apply e_Mo_has
  apply s_Mo_has_0
  rw [f54_114 F0]
  exact ⟨k54 L, l8 4096 0 m0 (by omega) (fun _ _ _ => rfl) (fun x hx => by omega)⟩

/-! THE MODEL'S ROWS of evenings and mornings, at the end of all days. -/
/-- the cell of an engine that stands at place k of its row -/
def zsl (k : Int) : Int := if k = 0 then 99 else if k = 1 then 100 else k + 100
theorem zsav_e {row : Int} (hr : row < 99 ∨ 106 < row) {s : zM} {d : Int} : ∀ (n : Nat) (e k : Int), 0 ≤ e → e < n → 0 ≤ k → k < 7 → zsav row s d n row (7 * (9 * d + e) + k) = s (zsl k) e
  | 0, e, k, e0, e1, h0, h1 => by omega
  | n + 1, e, k, e0, e1, h0, h1 => by
    show zsv1 row (zsav row s d n) d n row _ = _
    unfold zsv1
    by_cases y : e = n
    · subst y
      have c := fun i (q : 99 ≤ i ∧ i ≤ 106) => zsav_n (row := row) (s := s) (d := d) n i (n : Int) (by omega)
      have kk : k = 0 ∨ k = 1 ∨ k = 2 ∨ k = 3 ∨ k = 4 ∨ k = 5 ∨ k = 6 := by omega
      have n0 : ∀ a b : Int, (7 * (9 * d + (n : Int)) + a = 7 * (9 * d + (n : Int)) + b) ↔ a = b := fun a b => by omega
      have n1 : ∀ b : Int, (7 * (9 * d + (n : Int)) = 7 * (9 * d + (n : Int)) + b) ↔ b = 0 := fun b => by omega
      have n2 : ∀ b : Int, (7 * (9 * d + (n : Int)) + b = 7 * (9 * d + (n : Int))) ↔ b = 0 := fun b => by omega
      rcases kk with y | y | y | y | y | y | y <;> subst y <;> simp [zwr_ap, zsl, n0, n1, n2, c]
    · have ih := zsav_e hr (s := s) (d := d) n e k e0 (by omega) h0 h1
      simp only [zwr_ap]
      rw [if_neg (by omega), if_neg (by omega), if_neg (by omega), if_neg (by omega), if_neg (by omega), if_neg (by omega), if_neg (by omega)]
      exact ih
theorem zsav_o {row : Int} {s : zM} {d : Int} : ∀ (n : Nat) (j : Int), j < 63 * d ∨ 63 * d + 7 * n ≤ j → zsav row s d n row j = s row j
  | 0, j, h => rfl
  | n + 1, j, h => by
    show zsv1 row (zsav row s d n) d n row _ = _
    unfold zsv1
    simp only [zwr_ap]
    rw [if_neg (by omega), if_neg (by omega), if_neg (by omega), if_neg (by omega), if_neg (by omega), if_neg (by omega), if_neg (by omega)]
    exact zsav_o n j (by omega)
theorem zhap_o {g s : zM} {X : zTX} {n k : Int} (i j : Int) (hi : i = 114 ∨ i = 115 ∨ i = 116) : zhap g X n k s i j = s i j := by
  rcases hi with y | y | y <;> subst y <;> simp only [zhap] <;> (repeat' split) <;> first | rfl | (simp [zwr_ap]; done) | (unfold zbrk; simp only []; (repeat' split) <;> simp [zwr_ap]; done) | (unfold zgo; split <;> (try simp only [zrun]) <;> (repeat' split) <;> simp [zwr_ap]; done)
theorem zdf_o {g s : zM} {X : zTX} {n d : Int} (i j : Int) (hi : i = 114 ∨ i = 115 ∨ i = 116) : ∀ (k : Nat), zdf g X n d s k i j = s i j
  | 0 => rfl
  | k + 1 => by
    show (if (g 95 ((k : Int))) = d then zhap g X n k (zdf g X n d s k) else zdf g X n d s k) i j = _
    split
    · rw [zhap_o i j hi]; exact zdf_o i j hi k
    · exact zdf_o i j hi k
theorem zbeg_o {g s : zM} {X : zTX} {d : Int} (G : 0 ≤ (g 54 47) ∧ (g 54 47) ≤ 9) (i j : Int) (hi : i = 114 ∨ i = 115 ∧ (j < 63 * d ∨ 63 * d + 63 ≤ j) ∨ i = 116 ∧ (j < 9 * d ∨ 9 * d + 9 ≤ j)) : zbeg g X d s i j = s i j := by
  have a : zz (zwk g d s ((g 54 47)).toNat) i j = s i j := by
    unfold zz
    rw [if_neg (by omega), zwk_c, if_neg (by omega)]
  unfold zbeg
  rcases hi with y | y | y
  · rw [zdu_c _ _ _ _ _ _ _ (by omega), zsav_n _ _ _ (by omega)]; exact a
  · rw [zdu_c _ _ _ _ _ _ _ (by omega), y.1]
    rw [y.1] at a
    rw [zsav_o _ _ (by omega)]; exact a
  · rw [y.1]
    rw [y.1] at a
    rw [zdu_e, if_neg (by omega), zsav_n _ _ _ (by omega)]; exact a
theorem zday_o {g s : zM} {X : zTX} {n d : Int} (G : 0 ≤ (g 54 47) ∧ (g 54 47) ≤ 9) (i j : Int) (hi : (i = 114 ∨ i = 115) ∧ (j < 63 * d ∨ 63 * d + 63 ≤ j) ∨ i = 116 ∧ (j < 9 * d ∨ 9 * d + 9 ≤ j)) : zday g X n d s i j = s i j := by
  have c : zdf g X n d (zbeg g X d s) n.toNat i j = s i j := by rw [zdf_o i j (by omega), zbeg_o G i j (by omega)]
  unfold zday
  by_cases y : i = 114
  · subst y
    rw [zsav_o _ _ (by omega)]; exact c
  · rw [zsav_n _ _ _ y]; exact c
theorem zall_o {g s : zM} {X : zTX} {n D : Int} (G : 0 ≤ (g 54 47) ∧ (g 54 47) ≤ 9) (hD : 0 ≤ D) (i j : Int) (hi : (i = 114 ∨ i = 115) ∧ 63 * D ≤ j ∧ j < 63 * D + 63 ∨ i = 116 ∧ 9 * D ≤ j ∧ j < 9 * D + 9) : ∀ t : Nat, zall g X n s (D.toNat + 1 + t) i j = zall g X n s (D.toNat + 1) i j
  | 0 => rfl
  | t + 1 => by
    show zday g X n ((D.toNat + 1 + t : Nat) : Int) (zall g X n s (D.toNat + 1 + t)) i j = _
    rw [zday_o G i j (by omega)]
    exact zall_o G hD i j hi t
theorem zall_day {g s : zM} {X : zTX} {n D : Int} (hn : 0 ≤ n) (hD : 0 ≤ D) : zall g X n s (D.toNat + 1) = zsav 114 (zat g X n s D n) D ((g 54 47)).toNat := by
  show zday g X n (D.toNat : Int) (zall g X n s D.toNat) = _
  unfold zday zat
  rw [show ((D.toNat : Nat) : Int) = D by omega]
/-- evenings -/
theorem zall_ev {g s : zM} {X : zTX} {n D e k : Int} (G : 0 ≤ (g 54 47) ∧ (g 54 47) ≤ 9) (hn : 0 ≤ n) (hD : 0 ≤ D ∧ D ≤ 119) (he : 0 ≤ e ∧ e < (g 54 47)) (hk : 0 ≤ k ∧ k < 7) : zall g X n s 120 114 (7 * (9 * D + e) + k) = zat g X n s D n (zsl k) e := by
  have a := zall_o (s := s) (X := X) (n := n) G hD.1 114 (7 * (9 * D + e) + k) (by omega) (119 - D.toNat)
  rw [show D.toNat + 1 + (119 - D.toNat) = 120 by omega] at a
  rw [a, zall_day hn hD.1, zsav_e (by omega) _ _ _ he.1 (by omega) hk.1 hk.2]
theorem zsl_r {k : Int} (hk : 0 ≤ k ∧ k < 7) : 99 ≤ zsl k ∧ zsl k ≤ 106 := by unfold zsl; split; omega; split <;> omega
/-- mornings -/
theorem zall_mo {g s : zM} {X : zTX} {n D e k : Int} (G : 0 ≤ (g 54 47) ∧ (g 54 47) ≤ 9) (hn : 0 ≤ n) (hD : 0 ≤ D ∧ D ≤ 119) (he : 0 ≤ e ∧ e < (g 54 47)) (hk : 0 ≤ k ∧ k < 7) : zall g X n s 120 115 (7 * (9 * D + e) + k) = zat g X n s D 0 (zsl k) e := by
  have a := zall_o (s := s) (X := X) (n := n) G hD.1 115 (7 * (9 * D + e) + k) (by omega) (119 - D.toNat)
  rw [show D.toNat + 1 + (119 - D.toNat) = 120 by omega] at a
  have r := zsl_r hk
  rw [a, zall_day hn hD.1, zsav_n _ _ _ (by decide)]
  unfold zat
  rw [zdf_o _ _ (by omega)]
  show _ = zbeg g X D (zall g X n s D.toNat) (zsl k) e
  unfold zbeg
  rw [zdu_c _ _ _ _ _ _ _ (by omega), zdu_c _ _ _ _ _ _ _ (by omega), zsav_e (by omega) _ _ _ he.1 (by omega) hk.1 hk.2, zsav_n _ _ _ (by omega)]
theorem zall_du {g s : zM} {X : zTX} {n D e : Int} (G : 0 ≤ (g 54 47) ∧ (g 54 47) ≤ 9) (hn : 0 ≤ n) (hD : 0 ≤ D ∧ D ≤ 119) (he : 0 ≤ e ∧ e < (g 54 47)) : zall g X n s 120 116 (9 * D + e) = zb (zdue g X D (zat g X n s D 0) e) := by
  have a := zall_o (s := s) (X := X) (n := n) G hD.1 116 (9 * D + e) (by omega) (119 - D.toNat)
  rw [show D.toNat + 1 + (119 - D.toNat) = 120 by omega] at a
  rw [a, zall_day hn hD.1, zsav_n _ _ _ (by decide)]
  unfold zat
  rw [zdf_o _ _ (by omega)]
  exact (zbeg_c G).2.2.2.2 e he.1 he.2
theorem zall_res {g s : zM} {X : zTX} {n : Int} (hn : 0 ≤ n) (i j : Int) (hi : 117 ≤ i) : zall g X n s 120 i j = zat g X n s 119 n i j := by
  rw [show (120 : Nat) = (119 : Int).toNat + 1 from rfl, zall_day hn (by decide), zsav_n _ _ _ (by omega)]
/-- what settling to the end has come to -/
theorem xdone_res {g m s : zM} {X : zTX} {n : Int} (G : zgood g) (hn : 0 ≤ n ∧ n ≤ (g 54 61)) (R : xdone g m X n 119 119 s) : ∀ q, 0 ≤ q → q < n → (g 94 q) ≠ 9 → xres1 g m (zall g X n s 120) q (m 24 q) := by
  intro q q0 q1 q9
  have r := R.2 q q0 q1 q9 (by
    have gq := G.2.2.2.2.2.1 q q0 (by omega)
    unfold zfact at gq
    have := gq.2.1 q9
    rw [if_pos rfl]
    omega)
  rw [if_pos rfl] at r
  have c := fun i (y : 117 ≤ i) => zall_res (g := g) (s := s) (X := X) hn.1 i q y
  unfold xres1 at *
  rw [c 117 (by decide), c 118 (by decide), c 119 (by decide), c 120 (by decide), c 121 (by decide), c 122 (by decide), c 123 (by decide), c 124 (by decide), c 125 (by decide), c 126 (by decide)]
  exact r
/-- an engine as a row of the model has it -/
def xrow (m s : zM) (row D e p : Int) : Prop := (m p 2) = s row (7 * (9 * D + e)) ∧ (m p 6) = s row (7 * (9 * D + e) + 2) ∧ (m p 7) = s row (7 * (9 * D + e) + 3) ∧ (m p 8) = s row (7 * (9 * D + e) + 4) ∧ (m p 9) = s row (7 * (9 * D + e) + 5) ∧ (m p 3) = s row (7 * (9 * D + e) + 6) ∧
  (s row (7 * (9 * D + e) + 1) = 0 ∧ (m p 4) = 0 ∧ (m p 5) = -1 ∨ s row (7 * (9 * D + e) + 1) = 1 ∧ (m p 4) = 0 ∧ (m p 5) ≠ -1 ∨ s row (7 * (9 * D + e) + 1) = 2 ∧ (m p 4) = 1 ∧ (m p 5) = -1)
theorem xrow_of {g m s s9 : zM} {row D e p : Int} (hD : 0 ≤ D) (h : ∀ k, 0 ≤ k → k < 7 → s9 row (7 * (9 * D + e) + k) = s (zsl k) e) (A : xaw g m s D e p) : xrow m s9 row D e p := by
  obtain ⟨⟨a1, a2, a3, a4, a5, a6⟩, ah⟩ := A
  have e0 := h 0 (by decide) (by decide)
  rw [Int.add_zero] at e0
  unfold xrow
  rw [e0, h 1 (by decide) (by decide), h 2 (by decide) (by decide), h 3 (by decide) (by decide), h 4 (by decide) (by decide), h 5 (by decide) (by decide), h 6 (by decide) (by decide)]
  refine ⟨a1.symm, a3.symm, a4.symm, a5.symm, a6.symm, a2.symm, ?_⟩
  rcases ah with z | z | z
  · exact Or.inl z
  · exact Or.inr (Or.inl ⟨z.1, z.2.1, by omega⟩)
  · exact Or.inr (Or.inr z)
theorem xdone_ev {g m s : zM} {X : zTX} {n D : Int} (G : zgood g) (hn : 0 ≤ n) (hD : 0 ≤ D ∧ D ≤ 119) (R : xdone g m X n D D s) : ∀ e, 0 ≤ e → e < (g 54 47) → xrow m (zall g X n s 120) 114 D e (m 21 e) := by
  intro e e0 e1
  have r := R.1 e e0 e1
  rw [if_pos rfl] at r
  exact xrow_of hD.1 (fun k a b => zall_ev G.1 hn hD ⟨e0, e1⟩ ⟨a, b⟩) r
theorem xdone_mo {g m s : zM} {X : zTX} {n D : Int} (G : zgood g) (hn : 0 ≤ n) (hD : 0 ≤ D ∧ D ≤ 119) (R : xdone g m X n (D - 1) D s) : ∀ e, 0 ≤ e → e < (g 54 47) → xrow m (zall g X n s 120) 115 D e (m 21 e) ∧ xaw g m (zat g X n s D 0) D e (m 21 e) := by
  intro e e0 e1
  have r := R.1 e e0 e1
  rw [if_neg (by omega)] at r
  exact ⟨xrow_of hD.1 (fun k a b => zall_mo G.1 hn hD ⟨e0, e1⟩ ⟨a, b⟩) r, r⟩

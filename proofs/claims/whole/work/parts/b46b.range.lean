/-! WHAT THE MODEL'S DAYS KEEP in range: where engines stand, where they stood. -/
def zhom (g : zM) : Prop := ∀ e, 0 ≤ e → e < (g 54 47) → 0 ≤ (g 84 e) ∧ (g 84 e) < (g 54 45)
def zst1 (g s : zM) : Prop := ∀ e, 0 ≤ e → e < (g 54 47) → 0 ≤ (s 99 e) ∧ (s 99 e) < (g 54 45)
def zbk1 (g s : zM) (k : Int) : Prop := ((s 124 k) = 0 ∨ (s 124 k) = 1) ∧ ((s 124 k) ≠ 0 → (0 ≤ (s 125 k) ∧ (s 125 k) < (g 54 45)) ∧ ((s 126 k) = -1 ∨ 0 ≤ (s 126 k) ∧ (s 126 k) < (g 54 50)))
theorem zbrk_at {g s : zM} {k : Int} (e : Int) : zbrk g k s 99 e = s 99 e ∨ ((s 108 ((g 96 k))) ≠ -1 ∧ zbrk g k s 99 e = (g 86 ((g 97 ((s 108 ((g 96 k)))))))) := by
  simp only [zbrk]
  by_cases y : e = (g 96 k)
  · split
    · exact Or.inl (by simp [zwr_ap])
    · split
      · exact Or.inl (by simp [zwr_ap])
      · rename_i q
        split
        · exact Or.inr ⟨q, by simp [zwr_ap, y]⟩
        · exact Or.inr ⟨q, by simp [zwr_ap, y]⟩
  · left; (repeat' split) <;> simp [zwr_ap, y]
theorem zgo_at {g s : zM} {X : zTX} {k n : Int} (e : Int) : zgo g s X k n 99 e = s 99 e ∨ zgo g s X k n 99 e = (g 87 ((g 97 k))) := by
  unfold zgo
  split
  · simp only [zrun]
    by_cases y : e = (g 96 k)
    · right; split <;> simp [zwr_ap, y]
    · left; split <;> simp [zwr_ap, y]
  · left; simp [zwr_ap]
theorem zst1_hap {g s : zM} {X : zTX} {n k d : Int} (G : zgood g) (H : zhom g) (S : zsafe g s d) (A : zst1 g s) (hk : 0 ≤ k ∧ k < (g 54 61)) (h9 : (g 94 k) ≠ 9) : zst1 g (zhap g X n k s) := by
  intro e e0 e1
  have a := A e e0 e1
  have gk := G.2.2.2.2.2.1 k hk.1 hk.2
  unfold zfact at gk
  obtain ⟨g1, g2, g3, g4, g5, g6, g7, g8, g9, g10, g11⟩ := gk
  have b := zbrk_at (g := g) (s := s) (k := k) e
  have c := zgo_at (g := g) (s := s) (X := X) (k := k) (n := n) e
  simp only [zhap]
  by_cases h0 : (g 94 k) = 0
  · rw [if_pos h0]; (repeat' split) <;> (try simp only [zwr_ap, Int.reduceEq, false_and, if_false]) <;> exact a
  rw [if_neg h0]
  by_cases h1 : (g 94 k) = 1
  · rw [if_pos h1]; (repeat' split) <;> (try simp only [zwr_ap, Int.reduceEq, false_and, if_false]) <;> exact a
  rw [if_neg h1]
  by_cases h2 : (g 94 k) = 2
  · rw [if_pos h2]; (repeat' split) <;> (try simp only [zwr_ap, Int.reduceEq, false_and, if_false]) <;> exact a
  rw [if_neg h2]
  by_cases h36 : (g 94 k) = 3 ∨ (g 94 k) = 6
  · rw [if_pos h36]
    have v : 0 ≤ (if (g 94 k) = 6 then (g 97 k) else (g 84 ((g 96 k)))) ∧ (if (g 94 k) = 6 then (g 97 k) else (g 84 ((g 96 k)))) < (g 54 45) := by
      by_cases y : (g 94 k) = 6
      · rw [if_pos y]; exact g10 y
      · rw [if_neg y]
        have := g4 (by omega) (by omega)
        exact H _ this.1 this.2
    generalize (if (g 94 k) = 6 then (g 97 k) else (g 84 ((g 96 k)))) = w at v
    split
    · exact a
    · split
      · rw [zwr_ap]
        split
        · exact v
        · rw [zwr_ap, if_neg (by omega)]; exact a
      · exact a
  rw [if_neg h36]
  by_cases h4 : (g 94 k) = 4
  · rw [if_pos h4]; (repeat' split) <;> (try simp only [zwr_ap, Int.reduceEq, false_and, if_false]) <;> exact a
  rw [if_neg h4]
  by_cases h5 : (g 94 k) = 5
  · rw [if_pos h5]
    rcases b with b | ⟨b1, b2⟩
    · rw [b]; exact a
    · rw [b2]
      have f := g4 (by omega) (by omega)
      have r := (S _ f.1 f.2).1.resolve_left b1
      have gr := G.2.2.2.2.2.1 _ r.1 r.2.1
      unfold zfact at gr
      have t := gr.2.2.2.2.2.1 r.2.2
      have gt := G.2.2.2.2.2.2 _ t.1 t.2.1
      unfold zturn at gt
      exact gt.1
  rw [if_neg h5]
  by_cases h8 : (g 94 k) = 8
  · rw [if_pos h8]
    rcases c with c | c
    · rw [c]; exact a
    · rw [c]
      have t := g6 h8
      have gt := G.2.2.2.2.2.2 _ t.1 t.2.1
      unfold zturn at gt
      exact gt.2.1
  rw [if_neg h8]
  exact a
theorem zst1_beg {g s : zM} {X : zTX} {d : Int} (G : 0 ≤ (g 54 47) ∧ (g 54 47) ≤ 9) (H : zhom g) (A : zst1 g s) : zst1 g (zbeg g X d s) := by
  intro e e0 e1
  rw [(zbeg_c G).1 99 e (by decide) (by decide) e0 e1]
  have a := A e e0 e1
  have b := H e e0 e1
  unfold zwk1
  split
  · simp only [zwr_ap, Int.reduceEq, false_and, if_false, and_self, if_true]; exact b
  · simp only [zwr_ap, Int.reduceEq, false_and, if_false]; exact a
theorem zbrk_did {g s : zM} {k : Int} (i j : Int) (hi : 124 ≤ i ∧ i ≤ 126) (h : j ≠ k) : zbrk g k s i j = s i j := by
  simp only [zbrk]
  have n1 : i ≠ 100 := by omega
  have n2 : i ≠ 99 := by omega
  have n3 : i ≠ 102 := by omega
  have n4 : i ≠ 119 := by omega
  have n5 : i ≠ 110 := by omega
  (repeat' split) <;> simp [zwr_ap, h, n1, n2, n3, n4, n5]
theorem zgo_did {g s : zM} {X : zTX} {k n : Int} (i j : Int) (hi : 124 ≤ i ∧ i ≤ 126) : zgo g s X k n i j = s i j := by
  unfold zgo
  split
  · simp only [zrun]
    split <;> (simp only [zwr_ap]; repeat rw [if_neg (by omega)])
  · simp only [zwr_ap]; repeat rw [if_neg (by omega)]
theorem zhap_did {g s : zM} {X : zTX} {n k : Int} (i j : Int) (hi : 124 ≤ i ∧ i ≤ 126) (h : j ≠ k ∨ (g 94 k) ≠ 5) : zhap g X n k s i j = s i j := by
  simp only [zhap]
  by_cases h5 : (g 94 k) = 5
  · rw [if_neg (by omega), if_neg (by omega), if_neg (by omega), if_neg (by omega), if_neg (by omega), if_pos h5]
    exact zbrk_did i j hi (by omega)
  · rw [if_neg h5]
    by_cases h8 : (g 94 k) = 8
    · rw [if_neg (by omega), if_neg (by omega), if_neg (by omega), if_neg (by omega), if_neg (by omega), if_pos h8]
      exact zgo_did i j hi
    · rw [if_neg h8]
      (repeat' split) <;> first | rfl | (simp only [zwr_ap]; repeat rw [if_neg (by omega)])
theorem zbk1_brk {g s : zM} {X : zTX} {n k d : Int} (G : zgood g) (S : zsafe g s d) (A : zst1 g s) (hk : 0 ≤ k ∧ k < (g 54 61)) (h5 : (g 94 k) = 5) : zbk1 g (zhap g X n k s) k := by
  have gk := G.2.2.2.2.2.1 k hk.1 hk.2
  unfold zfact at gk
  have f := gk.2.2.2.1 (by omega) (by omega)
  clear gk
  have a := A _ f.1 f.2
  have r := (S _ f.1 f.2).1
  have z : zhap g X n k s = zbrk g k s := by
    simp only [zhap]
    rw [if_neg (by omega), if_neg (by omega), if_neg (by omega), if_neg (by omega), if_neg (by omega), if_pos h5]
  rw [z]
  unfold zbk1
  simp only [zbrk]
  by_cases y : (s 100 ((g 96 k))) ≠ 0
  · rw [if_pos y]
    simp [zwr_ap]
  · rw [if_neg y]
    by_cases y2 : (s 108 ((g 96 k))) = -1
    · rw [if_pos y2]
      simp [zwr_ap]
      exact a
    · rw [if_neg y2]
      have r := r.resolve_left y2
      have gr := G.2.2.2.2.2.1 _ r.1 r.2.1
      unfold zfact at gr
      have t := gr.2.2.2.2.2.1 r.2.2
      clear gr
      have gt := G.2.2.2.2.2.2 _ t.1 t.2.1
      unfold zturn at gt
      have gt := gt.1
      split
      · simp [zwr_ap]
        exact ⟨gt, Or.inr t.2.2⟩
      · simp [zwr_ap]
        exact ⟨gt, Or.inr t.2.2⟩
/-- the days so far -/
def zrng (g s : zM) (n D q : Int) : Prop := zst1 g s ∧ ∀ k, 0 ≤ k → k < n → (g 94 k) = 5 → xlt g k D q → zbk1 g s k
theorem zrng_df {g s : zM} {X : zTX} {n D : Int} (G : zgood g) (H : zhom g) (hn : n ≤ (g 54 61)) (hD : 0 ≤ D) (R : zrng g (zbeg g X D s) n D 0) : ∀ (t : Nat), (t : Int) ≤ n → zrng g (zdf g X n D (zbeg g X D s) t) n D t
  | 0, _ => R
  | t + 1, h => by
    have ih := zrng_df (s := s) (X := X) (D := D) G H hn hD R t (by omega)
    have sf := zsafe_at (s := s) (X := X) (D := D) G hn t (by omega)
    show zrng g (if (g 95 ((t : Int))) = D then _ else _) n D _
    by_cases y : (g 95 ((t : Int))) = D
    · rw [if_pos y]
      have n9 : (g 94 ((t : Int))) ≠ 9 := fun w => by
        have := G.2.2.2.2.2.1 (t : Int) (by omega) (by omega)
        unfold zfact at this
        have := this.2.2.1 w
        omega
      refine ⟨zst1_hap G H sf ih.1 ⟨by omega, by omega⟩ n9, fun k k0 k1 k5 kl => ?_⟩
      by_cases z : k = t
      · subst z; exact zbk1_brk G sf ih.1 ⟨by omega, by omega⟩ k5
      · have := ih.2 k k0 k1 k5 (by unfold xlt at *; omega)
        unfold zbk1 at *
        rw [zhap_did 124 k (by decide) (Or.inl z), zhap_did 125 k (by decide) (Or.inl z), zhap_did 126 k (by decide) (Or.inl z)]
        exact this
    · rw [if_neg y]
      refine ⟨ih.1, fun k k0 k1 k5 kl => ih.2 k k0 k1 k5 ?_⟩
      unfold xlt at *
      by_cases z : k = t
      · subst z; omega
      · omega
theorem zrng_all {g s : zM} {X : zTX} {n : Int} (G : zgood g) (H : zhom g) (hn : 0 ≤ n ∧ n ≤ (g 54 61)) : ∀ (t : Nat), zrng g (zall g X n s t) n t 0
  | 0 => by
    refine ⟨fun e e0 e1 => ?_, fun k k0 k1 k5 kl => ?_⟩
    · have e9 : zall g X n s 0 99 e = (g 84 e) := (zini_c (g := g) (s := s) ((g 54 47)).toNat e e0 (by omega)).1
      rw [e9]
      exact H e e0 e1
    · have gk := G.2.2.2.2.2.1 k k0 (by omega)
      unfold zfact at gk
      have := gk.2.1 (by omega)
      unfold xlt at kl
      omega
  | t + 1 => by
    have ih := zrng_all (s := s) (X := X) G H hn t
    have b : zrng g (zbeg g X t (zall g X n s t)) n t 0 := by
      refine ⟨zst1_beg G.1 H ih.1, fun k k0 k1 k5 kl => ?_⟩
      have := ih.2 k k0 k1 k5 kl
      have c := (zbeg_c (g := g) (s := zall g X n s t) (X := X) (d := t) G.1).2.2.2.1
      unfold zbk1 at *
      rw [c 124 k (by omega), c 125 k (by omega), c 126 k (by omega)]
      exact this
    have r := zrng_df (s := zall g X n s t) (X := X) (D := (t : Int)) G H hn.2 (by omega) b n.toNat (by omega)
    rw [show ((n.toNat : Nat) : Int) = n by omega] at r
    show zrng g (zsav 114 (zdf g X n t (zbeg g X t (zall g X n s t)) n.toNat) t _) n _ 0
    refine ⟨fun e e0 e1 => ?_, fun k k0 k1 k5 kl => ?_⟩
    · rw [zsav_n _ _ _ (by decide)]; exact r.1 e e0 e1
    · have := r.2 k k0 k1 k5 (by unfold xlt at *; omega)
      unfold zbk1 at *
      rw [zsav_n _ _ _ (by decide), zsav_n _ _ _ (by decide), zsav_n _ _ _ (by decide)]
      exact this
theorem zall_bk {g s : zM} {X : zTX} {n k : Int} (G : zgood g) (H : zhom g) (hn : 0 ≤ n ∧ n ≤ (g 54 61)) (hk : 0 ≤ k ∧ k < n) (h5 : (g 94 k) = 5) : zbk1 g (zall g X n s 120) k := by
  have gk := G.2.2.2.2.2.1 k hk.1 (by omega)
  unfold zfact at gk
  have := gk.2.1 (by omega)
  exact (zrng_all (s := s) (X := X) G H hn 120).2 k hk.1 hk.2 h5 (Or.inl (by omega))

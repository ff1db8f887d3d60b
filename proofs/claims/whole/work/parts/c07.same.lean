/-! THE LAW: what the days stand on. -/
/-- two ghosts with the same engines, facts, turns and men as far as the first one's counts -/
def zge (g g' : zM) : Prop := (g' 54 47) = (g 54 47) ∧ (∀ e, 0 ≤ e → e < (g 54 47) → ∀ i, 83 ≤ i → i ≤ 84 → g' i e = g i e) ∧ (∀ k, 0 ≤ k → k < (g 54 61) → ∀ i, 94 ≤ i → i ≤ 98 → g' i k = g i k) ∧ (∀ t, 0 ≤ t → t < (g 54 52) → ∀ i, 86 ≤ i → i ≤ 93 → g' i t = g i t) ∧ ∀ p, 0 ≤ p → p < (g 54 50) → g' 85 p = g 85 p
theorem zmf_cg {g g' : zM} (H : zge g g') (k : Int) : ∀ (t : Nat) (i v : Int), 0 ≤ i → i + t ≤ (g 54 61) → zmf g' k t i v = zmf g k t i v
  | 0, _, _, _, _ => rfl
  | t + 1, i, v, h0, h1 => by
    have f := H.2.2.1 i h0 (by omega)
    unfold zmf
    rw [f 94 (by decide) (by decide), f 97 (by decide) (by decide), f 98 (by decide) (by decide)]
    exact zmf_cg H k t _ _ (by omega) (by omega)
theorem zbrk_cg {g g' s : zM} {k d : Int} (H : zge g g') (G : zgood g) (S : zsafe g s d) (hk : 0 ≤ k ∧ k < (g 54 61)) (h5 : (g 94 k) = 5) : zbrk g' k s = zbrk g k s := by
  have f := H.2.2.1 k hk.1 hk.2 96 (by decide) (by decide)
  have z := G.2.2.2.2.2.1 k hk.1 hk.2
  unfold zfact at z
  have e := z.2.2.2.1 (by omega) (by omega)
  have l := (S _ e.1 e.2).1
  unfold zbrk
  rw [f]
  dsimp only
  rcases l with l | ⟨l0, l1, l2⟩
  · rw [if_pos l, if_pos l]
  · have fr := H.2.2.1 _ l0 l1
    have zr := G.2.2.2.2.2.1 _ l0 l1
    unfold zfact at zr
    have ta := zr.2.2.2.2.2.1 l2
    have tt := H.2.2.2.1 _ ta.1 ta.2.1 86 (by decide) (by decide)
    rw [fr 98 (by decide) (by decide), fr 97 (by decide) (by decide), tt]
theorem zgo_cg {g g' s : zM} {X : zTX} {k n : Int} (H : zge g g') (G : zgood g) (hk : 0 ≤ k ∧ k < n ∧ n ≤ (g 54 61)) (h8 : (g 94 k) = 8) : zgo g' s X k n = zgo g s X k n := by
  have f := H.2.2.1 k hk.1 (by omega)
  have q95 := f 95 (by decide) (by decide)
  have q96 := f 96 (by decide) (by decide)
  have q97 := f 97 (by decide) (by decide)
  have q98 := f 98 (by decide) (by decide)
  have z := G.2.2.2.2.2.1 k hk.1 (by omega)
  unfold zfact at z
  have e := z.2.2.2.1 (by omega) (by omega)
  have ta := z.2.2.2.2.2.1 h8
  have ce := H.2.1 _ e.1 e.2
  have c83 := ce 83 (by decide) (by decide)
  have c84 := ce 84 (by decide) (by decide)
  have ct := H.2.2.2.1 _ ta.1 ta.2.1
  have t86 := ct 86 (by decide) (by decide)
  have t87 := ct 87 (by decide) (by decide)
  have t88 := ct 88 (by decide) (by decide)
  have t89 := ct 89 (by decide) (by decide)
  have t90 := ct 90 (by decide) (by decide)
  have t91 := ct 91 (by decide) (by decide)
  have t92 := ct 92 (by decide) (by decide)
  have t93 := ct 93 (by decide) (by decide)
  have m85 := H.2.2.2.2 _ ta.2.2.1 ta.2.2.2
  have mi : zmi g' k n = zmi g k n := by
    unfold zmi
    rw [q97, t90]
    exact zmf_cg H k _ _ _ (by omega) (by omega)
  unfold zgo zwhy zrun zba zVr zve zFl zhs zma
  dsimp only
  rw [q95, q96, q97, q98, c83, c84, t86, t87, t88, t89, t90, t91, t92, t93, m85, mi]
theorem zhap_cg {g g' s : zM} {X : zTX} {k n d : Int} (H : zge g g') (G : zgood g) (S : zsafe g s d) (hk : 0 ≤ k ∧ k < n ∧ n ≤ (g 54 61)) (h9 : (g 94 k) ≠ 9) : zhap g' X n k s = zhap g X n k s := by
  have f := H.2.2.1 k hk.1 (by omega)
  have q94 := f 94 (by decide) (by decide)
  have q95 := f 95 (by decide) (by decide)
  have q96 := f 96 (by decide) (by decide)
  have q97 := f 97 (by decide) (by decide)
  have z := G.2.2.2.2.2.1 k hk.1 (by omega)
  unfold zfact at z
  unfold zhap
  simp only [q94, q95, q96, q97]
  split
  · rfl
  · split
    · rfl
    · split
      · rfl
      · split
        · have e := z.2.2.2.1 (by omega) (by omega)
          rw [H.2.1 _ e.1 e.2 84 (by decide) (by decide)]
        · split
          · rfl
          · split
            · exact zbrk_cg H G S ⟨hk.1, by omega⟩ (by assumption)
            · split
              · exact zgo_cg H G hk (by assumption)
              · rfl
theorem zwk_cg {g g' : zM} (H : zge g g') (d : Int) (s : zM) : ∀ n : Nat, (n : Int) ≤ (g 54 47) → zwk g' d s n = zwk g d s n
  | 0, _ => rfl
  | n + 1, h => by
    unfold zwk
    rw [zwk_cg H d s n (by omega)]
    unfold zwk1
    rw [H.2.1 (n : Int) (by omega) (by omega) 84 (by decide) (by decide)]
theorem zdu_cg {g g' : zM} (H : zge g g') (X : zTX) (d : Int) (s : zM) : ∀ n : Nat, (n : Int) ≤ (g 54 47) → zdu g' X d s n = zdu g X d s n
  | 0, _ => rfl
  | n + 1, h => by
    have c := H.2.1 (n : Int) (by omega) (by omega)
    unfold zdu
    rw [zdu_cg H X d s n (by omega)]
    unfold zdue zve
    rw [c 83 (by decide) (by decide), c 84 (by decide) (by decide)]
    simp only [show (-1 : Int) < 0 from by decide, if_true]
theorem zbeg_cg {g g' : zM} (H : zge g g') (G : 0 ≤ (g 54 47)) (X : zTX) (d : Int) (s : zM) : zbeg g' X d s = zbeg g X d s := by
  unfold zbeg
  rw [H.1, zwk_cg H d s _ (by omega), zdu_cg H X d _ _ (by omega)]
theorem zini_cg {g g' : zM} (H : zge g g') (s : zM) : ∀ n : Nat, (n : Int) ≤ (g 54 47) → zini g' s n = zini g s n
  | 0, _ => rfl
  | n + 1, h => by
    unfold zini
    rw [zini_cg H s n (by omega)]
    unfold zin1
    rw [H.2.1 (n : Int) (by omega) (by omega) 84 (by decide) (by decide)]
theorem zdf_cg {g g' s : zM} {X : zTX} {n D : Int} (H : zge g g') (G : zgood g) (hn : n ≤ (g 54 61)) (hD : 0 ≤ D) : ∀ t : Nat, (t : Int) ≤ n → zdf g' X n D (zbeg g X D s) t = zdf g X n D (zbeg g X D s) t
  | 0, _ => rfl
  | t + 1, h => by
    have i := zdf_cg (s := s) (X := X) (D := D) H G hn hD t (by omega)
    have f := H.2.2.1 (t : Int) (by omega) (by omega) 95 (by decide) (by decide)
    show (if (g' 95 ((t : Int))) = D then zhap g' X n t (zdf g' X n D (zbeg g X D s) t) else zdf g' X n D (zbeg g X D s) t) = (if (g 95 ((t : Int))) = D then zhap g X n t (zdf g X n D (zbeg g X D s) t) else zdf g X n D (zbeg g X D s) t)
    rw [i, f]
    split
    · rename_i hd
      refine zhap_cg H G (zsafe_at G hn t (by omega)) ⟨by omega, by omega, hn⟩ (fun z9 => ?_)
      have z := G.2.2.2.2.2.1 (t : Int) (by omega) (by omega)
      unfold zfact at z
      have := z.2.2.1 z9
      omega
    · rfl
theorem zall_cg {g g' s : zM} {X : zTX} {n : Int} (H : zge g g') (G : zgood g) (hn : 0 ≤ n ∧ n ≤ (g 54 61)) : ∀ d : Nat, zall g' X n s d = zall g X n s d
  | 0 => by
    show zini g' s ((g' 54 47)).toNat = zini g s ((g 54 47)).toNat
    rw [H.1]
    exact zini_cg H s _ (by have := G.1; omega)
  | d + 1 => by
    show zday g' X n d (zall g' X n s d) = zday g X n d (zall g X n s d)
    rw [zall_cg H G hn d]
    unfold zday
    rw [H.1, zbeg_cg H G.1.1, zdf_cg H G hn.2 (by omega) _ (by omega)]
theorem zat_cg {g g' s : zM} {X : zTX} {n D q : Int} (H : zge g g') (G : zgood g) (hn : 0 ≤ n ∧ n ≤ (g 54 61)) (hD : 0 ≤ D) (hq : q ≤ n) : zat g' X n s D q = zat g X n s D q := by
  unfold zat
  rw [zall_cg H G hn, zbeg_cg H G.1.1, zdf_cg H G hn.2 hD _ (by omega)]
theorem zgc_cg {g g' m m1 : zM} {X : zTX} (C : zgc g m X) (H : zge g g') (G : zgood g) (hf : (g 54 61) ≤ (g' 54 61)) (w : ∀ i j, 99 ≤ i → i ≤ 126 → m1 i j = m i j) (w2 : (m1 54 67) = (m 54 67)) : zgc g' m1 X := by
  unfold zgc at C ⊢
  rw [w2]
  rcases C with c | ⟨c1, c2, s, E⟩
  · exact Or.inl c
  · refine Or.inr ⟨c1, by omega, s, fun i j h1 h2 => ?_⟩
    rw [w i j h1 h2, zall_cg H G ⟨c1, c2⟩]
    exact E i j h1 h2

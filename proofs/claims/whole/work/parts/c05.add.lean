/-! THE READING: the class's book takes a text. -/
theorem zfr_app (X : zTX) (t : zTxt) (k : Nat) : zfr (X ++ [t]) k = if k < X.length then zfr X k else if k = X.length then t.1 else 0 := by
  unfold zfr
  rw [gdX_app]
  split
  · rfl
  · split <;> rfl
theorem zqd_app (X : zTX) (t : zTxt) (d : Nat) : zqd (X ++ [t]) d = zqd X d ++ (if t.1 = (d : Int) then [X.length] else []) := by
  unfold zqd
  rw [List.length_append, List.length_singleton, List.range_succ, List.filter_append]
  congr 1
  · apply List.filter_congr
    intro k hk
    rw [zfr_app, if_pos (List.mem_range.1 hk)]
  · by_cases z : t.1 = (d : Int)
    · simp [List.filter_cons, zfr_app, z]
    · simp [List.filter_cons, zfr_app, z]
theorem zqs_mono (X : zTX) (n : Nat) : ∀ m : Nat, (zqs X n).length ≤ (zqs X (n + m)).length
  | 0 => Nat.le_refl _
  | m + 1 => by
    have := zqs_mono X n m
    rw [← Nat.add_assoc, zqs_s, List.length_append]; omega
theorem zqs_new (X : zTX) (t : zTxt) (f : Nat) (hf : t.1 = (f : Int)) : ∀ n : Nat, zqs (X ++ [t]) n = if f < n then zqs X (f + 1) ++ X.length :: (zqs X n).drop (zqs X (f + 1)).length else zqs X n
  | 0 => by rw [if_neg (by omega)]; rfl
  | n + 1 => by
    rw [zqs_s, zqs_new X t f hf n, zqd_app, hf]
    by_cases z : f < n
    · have := zqs_mono X (f + 1) (n - (f + 1))
      rw [show f + 1 + (n - (f + 1)) = n by omega] at this
      rw [if_pos z, if_neg (by omega : ¬ (f : Int) = (n : Int)), if_pos (by omega : f < n + 1), List.append_nil, zqs_s X n, List.drop_append_of_le_length this]
      simp
    · rw [if_neg z]
      by_cases z2 : f = n
      · subst z2
        rw [if_pos rfl, if_pos (by omega : f < f + 1), zqs_s, List.drop_length, List.append_assoc]
      · rw [if_neg (by omega : ¬ (f : Int) = (n : Int)), if_neg (by omega : ¬ f < n + 1), List.append_nil, zqs_s]
theorem gdn_app2 (l1 l2 : List Nat) (i : Nat) : (l1 ++ l2).getD i 0 = if i < l1.length then l1.getD i 0 else l2.getD (i - l1.length) 0 := by
  rw [List.getD_eq_getElem?_getD, List.getD_eq_getElem?_getD, List.getD_eq_getElem?_getD]
  by_cases h : i < l1.length
  · rw [if_pos h, List.getElem?_append_left h]
  · rw [if_neg h, List.getElem?_append_right (by omega)]
/-- the queue with the new text in it -/
theorem zqs_at (X : zTX) (t : zTxt) (f : Nat) (hf : t.1 = (f : Int)) (h119 : f ≤ 119) (i : Nat) : (zqs (X ++ [t]) 120).getD i 0 = if i < (zqs X (f + 1)).length then (zqs X 120).getD i 0 else if i = (zqs X (f + 1)).length then X.length else (zqs X 120).getD (i - 1) 0 := by
  have tk := (zqs_take (X := X) (n := f + 1) (by omega)).1
  rw [zqs_new X t f hf, if_pos (by omega : f < 120), gdn_app2]
  by_cases z : i < (zqs X (f + 1)).length
  · rw [if_pos z, if_pos z]
    conv => lhs; rw [← tk]
    rw [List.getD_eq_getElem?_getD, List.getElem?_take, if_pos z, List.getD_eq_getElem?_getD]
  · rw [if_neg z, if_neg z]
    by_cases z2 : i = (zqs X (f + 1)).length
    · rw [if_pos z2, z2, Nat.sub_self]; rfl
    · rw [if_neg z2, show i - (zqs X (f + 1)).length = (i - 1 - (zqs X (f + 1)).length) + 1 by omega]
      rw [List.getD_cons_succ, List.getD_eq_getElem?_getD, List.getElem?_drop, List.getD_eq_getElem?_getD, show (zqs X (f + 1)).length + (i - 1 - (zqs X (f + 1)).length) = i - 1 by omega]
theorem c_Bk_add {d : Nat} {p fr : Int} {X : zTX} {m : zM} {h : zH} {P : zM → zH → Prop} (F : zFix m) (L : zLay h) (B : xBook m h X) (h5 : X.length ≤ 5) (t : ztx m h p) (hf : (m p 8) = fr) (f0 : 0 ≤ fr ∧ fr ≤ 119)
    (K : ∀ m' : zM, (∀ i j, i ≠ 6 → ¬ (i = 5 ∧ j = (X.length : Int)) → ¬ (i = 2 ∧ (j = 3 ∨ j = 6)) → m' i j = m i j) → (m' 2 3) = (X.length : Int) + 1 → (m' 5 ((X.length : Int))) = p → (m' 2 6) = -1 → (∀ (Rs : List zRul) (i : Nat), i < X.length + 1 → (m' 6 ((i : Int))) = ((zqs (X ++ [(fr, Rs)]) 120).getD i 0 : Nat)) → P m' h) : zcal WP (d + 1) n_Bk_add [.inr (.inr 2), .inr (.inr p)] m h (zk0 P) := by
  obtain ⟨⟨b1, b2⟩, b3, b4⟩ := B
  have tk := zqs_take (X := X) (n := fr.toNat + 1) (by omega)
  have full := zqs_full (X := X) (fun k hk => (b3 k hk).2.2.2)
  have sl := zqs_len X (fr.toNat + 1)
  generalize hs : (zqs X (fr.toNat + 1)).length = s at *
  -- the end
  have fin : ∀ m1 : zM, (∀ i j, ¬ (i = 6 ∧ (s : Int) < j) → m1 i j = m i j) → (∀ j : Nat, s < j → j ≤ X.length → m1 6 (j : Int) = ((zqs X 120).getD (j - 1) 0 : Nat)) → q_Bk_add_62 d 2 p (s : Int) m1 h (zk0 P) := fun m1 w1 q1 => by
    have F1 : zFix m1 := fun i j q => by have ob := zrv_ob q; rw [w1 i j (by omega)]; exact F i j q
    have n1 : m1 2 3 = (X.length : Int) := by rw [w1 _ _ (by omega)]; exact b1
    apply s_Bk_add_62
    rw [f2_5 F1, n1]
    refine ⟨k2 L, k2 L, k6 L, by decide, by omega, by rw [l6 L]; omega, fun m2 e2 => ?_⟩
    have F2 : zFix m2 := by rw [e2]; exact zFix_wr F1 (zrv_0 (by decide))
    have n2 : m2 2 3 = (X.length : Int) := by rw [e2, zwr_ap, if_neg (by omega)]; exact n1
    rw [f2_4 F2, n2]
    refine ⟨k2 L, k2 L, k5 L, by decide, t.2.2.1, by omega, by rw [l5 L]; omega, fun m3 e3 => ?_⟩
    have n3 : m3 2 3 = (X.length : Int) := by rw [e3, zwr_ap, if_neg (by omega)]; exact n2
    rw [n3, w32_id (x := (X.length : Int) + 1) (by omega) (by omega)]
    refine ⟨k2 L, k2 L, by decide, fun m4 e4 => ⟨k2 L, by decide, fun m5 e5 => ⟨rfl, ?_⟩⟩⟩
    refine K m5 (fun i j y1 y2 y3 => ?_) ?_ ?_ ?_ (fun Rs i hi => ?_)
    · rw [e5, zwr_ap, if_neg (by omega), e4, zwr_ap, if_neg (by omega), e3, zwr_ap, if_neg (by omega), e2, zwr_ap, if_neg (by omega), w1 i j (by omega)]
    · rw [e5, zwr_ap, if_neg (by omega), e4, zwr_eq]
    · rw [e5, zwr_ap, if_neg (by omega), e4, zwr_ap, if_neg (by omega), e3, zwr_eq]
    · rw [e5, zwr_eq]
    · rw [zqs_at X (fr, Rs) fr.toNat (by dsimp only; omega) (by omega) i, hs, e5, zwr_ap, if_neg (by omega), e4, zwr_ap, if_neg (by omega), e3, zwr_ap, if_neg (by omega), e2, zwr_ap]
      by_cases z : i < s
      · rw [if_pos z, if_neg (by omega), w1 _ _ (by omega)]; exact b4 i (by omega)
      · rw [if_neg z]
        by_cases z2 : i = s
        · rw [if_pos z2, if_pos ⟨rfl, by omega⟩]
        · rw [if_neg z2, if_neg (by omega)]; exact q1 i (by omega) (by omega)
  have lp : ∀ (r a : Nat) (m1 : zM), a = s + r → a ≤ X.length → (∀ i j, ¬ (i = 6 ∧ (a : Int) < j) → m1 i j = m i j) → (∀ j : Nat, a < j → j ≤ X.length → m1 6 (j : Int) = ((zqs X 120).getD (j - 1) 0 : Nat)) → q_Bk_add_15 d 2 p (a : Int) m1 h (zk0 P) := by
    intro r
    induction r with
    | zero =>
      intro a m1 ha hX w1 q1
      have has : a = s := by omega
      subst has
      have F1 : zFix m1 := fun i j q => by have ob := zrv_ob q; rw [w1 i j (by omega)]; exact F i j q
      apply s_Bk_add_15
      refine ⟨fun _ => fin m1 w1 q1, fun z => ?_⟩
      have lt : (zqs X 120).getD (a - 1) 0 < X.length := by
        have hm : (zqs X 120).getD (a - 1) 0 ∈ zqs X 120 := by
          rw [List.getD_eq_getElem?_getD, List.getElem?_eq_getElem (by omega)]; exact List.getElem_mem _
        exact (zqs_mem hm).1
      have qa : m1 6 ((a : Int) - 1) = (((zqs X 120).getD (a - 1) 0 : Nat) : Int) := by
        rw [w1 _ _ (by omega), show (a : Int) - 1 = ((a - 1 : Nat) : Int) by omega]; exact b4 (a - 1) (by omega)
      have tx := b3 _ lt
      have tp := tx.1.1.1
      have fq : m1 (m1 5 (((zqs X 120).getD (a - 1) 0 : Nat) : Int)) 8 = zfr X ((zqs X 120).getD (a - 1) 0) := by
        rw [w1 5 _ (by omega), w1 _ 8 (by omega)]; exact tx.1.2.2.1
      have le := tk.2.1 (a - 1) (by omega)
      have fp : m1 p 8 = fr := by have := t.1; rw [w1 _ _ (by omega)]; exact hf
      rw [f2_5 F1, f2_4 F1, w32_id (x := (a : Int) - 1) (by omega) (by omega), qa, fq, fp]
      refine ⟨k2 L, k2 L, k6 L, by omega, by rw [l6 L]; omega, k5 L, by omega, by rw [l5 L]; omega, ?_, t.2.2.1, fun _ => fin m1 w1 q1, fun y => by omega⟩
      rw [w1 5 _ (by omega)]; exact tx.1.1.2.2.1
    | succ r ih =>
      intro a m1 ha hX w1 q1
      have F1 : zFix m1 := fun i j q => by have ob := zrv_ob q; rw [w1 i j (by omega)]; exact F i j q
      apply s_Bk_add_15
      refine ⟨fun z => by omega, fun z => ?_⟩
      have lt : (zqs X 120).getD (a - 1) 0 < X.length := by
        have hm : (zqs X 120).getD (a - 1) 0 ∈ zqs X 120 := by
          rw [List.getD_eq_getElem?_getD, List.getElem?_eq_getElem (by omega)]; exact List.getElem_mem _
        exact (zqs_mem hm).1
      have qa : m1 6 ((a : Int) - 1) = (((zqs X 120).getD (a - 1) 0 : Nat) : Int) := by
        rw [w1 _ _ (by omega), show (a : Int) - 1 = ((a - 1 : Nat) : Int) by omega]; exact b4 (a - 1) (by omega)
      have tx := b3 _ lt
      have tp := tx.1.1.1
      have fq : m1 (m1 5 (((zqs X 120).getD (a - 1) 0 : Nat) : Int)) 8 = zfr X ((zqs X 120).getD (a - 1) 0) := by
        rw [w1 5 _ (by omega), w1 _ 8 (by omega)]; exact tx.1.2.2.1
      have le := tk.2.2 (a - 1) (by omega) (by omega)
      have fp : m1 p 8 = fr := by have := t.1; rw [w1 _ _ (by omega)]; exact hf
      rw [f2_5 F1, f2_4 F1, w32_id (x := (a : Int) - 1) (by omega) (by omega), qa, fq, fp, w32_id (x := (a : Int) + -1) (by omega) (by omega), show (a : Int) + -1 = ((a - 1 : Nat) : Int) by omega]
      refine ⟨k2 L, k2 L, k6 L, by omega, by rw [l6 L]; omega, k5 L, by omega, by rw [l5 L]; omega, ?_, t.2.2.1, fun y => by omega, fun y => ⟨k2 L, k2 L, k6 L, by omega, by rw [l6 L]; omega, k6 L, by decide, by omega, by rw [l6 L]; omega, fun m2 e2 => ?_⟩⟩
      · rw [w1 5 _ (by omega)]; exact tx.1.1.2.2.1
      · refine ih (a - 1) m2 (by omega) (by omega) (fun i j y1 => by rw [e2, zwr_ap, if_neg (by omega)]; exact w1 i j (by omega)) fun j j1 j2 => ?_
        rw [e2, zwr_ap]
        by_cases z2 : j = a
        · rw [if_pos ⟨rfl, by omega⟩, z2]
        · rw [if_neg (by omega)]; exact q1 j (by omega) j2
  apply e_Bk_add
  apply s_Bk_add_0
  rw [b1]
  exact ⟨k2 L, fun _ => ⟨k2 L, lp (X.length - s) X.length m (by omega) (Nat.le_refl _) (fun _ _ _ => rfl) (fun j h1 h2 => by omega)⟩, fun z => by omega⟩

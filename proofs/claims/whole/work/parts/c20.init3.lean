/-! THE CONSTRUCTORS: the model's loops. -/
theorem zyG_82 : ∀ i : Nat, i < 25 → (zrem (i : Int) 6 ≠ 0 → zyG 82 (i : Int) = 1) ∧ (¬ zrem (i : Int) 6 ≠ 0 → zyG 82 (i : Int) = 0) := by decide +kernel
theorem zyG_135 : ∀ i : Nat, i < 72 → zyG 135 (i : Int) = 1 := by decide +kernel
theorem zyG_133 : ∀ i : Nat, i < 9 → zyG 133 (i : Int) = -1 ∧ zyG 136 (i : Int) = -1 := by decide +kernel
theorem zyG_130 : ∀ i : Nat, i < 12 → zyG 130 (i : Int) = -1 := by decide +kernel
theorem u_Mo_init {d L : Nat} {xs : Nat → Int32} {W : List (Int × Int)} {m : zM} {h : zH} {Q : zQ} (B : zB L xs 142 W m h) (w46 : (54, 46) ∈ W) (w109 : (54, 109) ∈ W) (w107 : (54, 107) ∈ W) (w110 : (54, 110) ∈ W) (w102 : (54, 102) ∈ W)
    (K : ∀ m', zB L xs 142 (zye 130 12 ++ (zye2 9 ++ (zye 135 72 ++ (zye 82 25 ++ W)))) m' h → Q none m' h) : q_Mo_init_1243 d 54 0 m h Q := by
  have k54' : kd h 54 = 13 := (B.2.2.1 54 (by decide) (by decide)).1
  have g : ∀ i : Nat, 0 < i → i ≤ 142 → kd h i = zKL.getD i 0 ∧ ln h i = zNL.getD i 0 := B.2.2.1
  have g82 : kd h 82 = 101 ∧ ln h 82 = 25 := g 82 (by decide) (by decide)
  have g135 : kd h 135 = 103 ∧ ln h 135 = 72 := g 135 (by decide) (by decide)
  have g133 : kd h 133 = 101 ∧ ln h 133 = 9 := g 133 (by decide) (by decide)
  have g136 : kd h 136 = 101 ∧ ln h 136 = 9 := g 136 (by decide) (by decide)
  have g130 : kd h 130 = 101 ∧ ln h 130 = 12 := g 130 (by decide) (by decide)
  have l4 : ∀ (t i : Nat) (m : zM), i + t = 12 → zB L xs 142 (zye 130 i ++ (zye2 9 ++ (zye 135 72 ++ (zye 82 25 ++ W)))) m h → q_Mo_init_1324 d 54 (i : Int) m h Q := by
    intro t
    induction t with
    | zero =>
      intro i m hi B
      obtain rfl : i = 12 := by omega
      apply s_Mo_init_1324
      exact ⟨fun _ => K m B, fun z => absurd (by decide) z⟩
    | succ t ih =>
      intro i m hi B
      have e : m 54 102 = 130 := (zB_rd B (by decide) (by decide) (by decide) (List.mem_append_right _ (List.mem_append_right _ (List.mem_append_right _ (List.mem_append_right _ w102))))).trans (show zyG 54 102 = 130 by decide +kernel)
      apply s_Mo_init_1324
      rw [e, w32_id (x := (i : Int) + 1) (by omega) (by omega), show (i : Int) + 1 = ((i + 1 : Nat) : Int) by omega]
      exact ⟨fun z => absurd z (by omega), fun _ => ⟨k54', g130.1, by decide, by omega, by rw [g130.2]; omega, fun m1 e1 => ih (i + 1) m1 (by omega) (zB_wr B e1 (by decide) (zyG_130 i (by omega)).symm)⟩⟩
  have l3 : ∀ (t i : Nat) (m : zM), i + t = 9 → zB L xs 142 (zye2 i ++ (zye 135 72 ++ (zye 82 25 ++ W))) m h → q_Mo_init_1296 d 54 (i : Int) m h Q := by
    intro t
    induction t with
    | zero =>
      intro i m hi B
      obtain rfl : i = 9 := by omega
      apply s_Mo_init_1296
      exact ⟨fun _ => l4 12 0 m (by decide) B, fun z => absurd (by decide) z⟩
    | succ t ih =>
      intro i m hi B
      have e : m 54 107 = 133 := (zB_rd B (by decide) (by decide) (by decide) (List.mem_append_right _ (List.mem_append_right _ (List.mem_append_right _ w107)))).trans (show zyG 54 107 = 133 by decide +kernel)
      have e2 : m 54 110 = 136 := (zB_rd B (by decide) (by decide) (by decide) (List.mem_append_right _ (List.mem_append_right _ (List.mem_append_right _ w110)))).trans (show zyG 54 110 = 136 by decide +kernel)
      apply s_Mo_init_1296
      rw [e, w32_id (x := (i : Int) + 1) (by omega) (by omega), show (i : Int) + 1 = ((i + 1 : Nat) : Int) by omega]
      refine ⟨fun z => absurd z (by omega), fun _ => ⟨k54', g133.1, by decide, by omega, by rw [g133.2]; omega, fun m1 e1 => ?_⟩⟩
      have B1 := zB_wr B e1 (by decide) (zyG_133 i (by omega)).1.symm
      have e3 : m1 54 110 = 136 := by rw [e1, zwr_ap, if_neg (by omega)]; exact e2
      rw [e3]
      exact ⟨k54', g136.1, by decide, by omega, by rw [g136.2]; omega, fun m2 e4 => ih (i + 1) m2 (by omega) (zB_wr B1 e4 (by decide) (zyG_133 i (by omega)).2.symm)⟩
  have l2 : ∀ (t i : Nat) (m : zM), i + t = 72 → zB L xs 142 (zye 135 i ++ (zye 82 25 ++ W)) m h → q_Mo_init_1275 d 54 (i : Int) m h Q := by
    intro t
    induction t with
    | zero =>
      intro i m hi B
      obtain rfl : i = 72 := by omega
      apply s_Mo_init_1275
      exact ⟨fun _ => l3 9 0 m (by decide) B, fun z => absurd (by decide) z⟩
    | succ t ih =>
      intro i m hi B
      have e : m 54 109 = 135 := (zB_rd B (by decide) (by decide) (by decide) (List.mem_append_right _ (List.mem_append_right _ w109))).trans (show zyG 54 109 = 135 by decide +kernel)
      apply s_Mo_init_1275
      rw [e, w32_id (x := (i : Int) + 1) (by omega) (by omega), show (i : Int) + 1 = ((i + 1 : Nat) : Int) by omega]
      exact ⟨fun z => absurd z (by omega), fun _ => ⟨k54', Or.inr rfl, g135.1, by decide, by omega, by rw [g135.2]; omega, fun m1 e1 => ih (i + 1) m1 (by omega) (zB_wr B e1 (by decide) (zyG_135 i (by omega)).symm)⟩⟩
  have l1 : ∀ (t i : Nat) (m : zM), i + t = 25 → zB L xs 142 (zye 82 i ++ W) m h → q_Mo_init_1243 d 54 (i : Int) m h Q := by
    intro t
    induction t with
    | zero =>
      intro i m hi B
      obtain rfl : i = 25 := by omega
      apply s_Mo_init_1243
      exact ⟨fun _ => l2 72 0 m (by decide) B, fun z => absurd (by decide) z⟩
    | succ t ih =>
      intro i m hi B
      have e : m 54 46 = 82 := (zB_rd B (by decide) (by decide) (by decide) (List.mem_append_right _ w46)).trans (show zyG 54 46 = 82 by decide +kernel)
      apply s_Mo_init_1243
      rw [e, w32_id (x := (i : Int) + 1) (by omega) (by omega), show (i : Int) + 1 = ((i + 1 : Nat) : Int) by omega]
      exact ⟨fun z => absurd z (by omega), fun _ => ⟨k54', by decide, fun z => ⟨g82.1, by decide, by omega, by rw [g82.2]; omega, fun m1 e1 => ih (i + 1) m1 (by omega) (zB_wr B e1 (by decide) ((zyG_82 i (by omega)).1 z).symm)⟩, fun z => ⟨g82.1, by decide, by omega, by rw [g82.2]; omega, fun m1 e1 => ih (i + 1) m1 (by omega) (zB_wr B e1 (by decide) ((zyG_82 i (by omega)).2 z).symm)⟩⟩⟩
  exact l1 25 0 m (by decide) B

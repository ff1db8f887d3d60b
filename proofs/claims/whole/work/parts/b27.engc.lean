/-! THE CLASS'S ENGINES: what their methods do. -/
theorem c_En_isSound {d : Nat} {p : Int} {m : zM} {h : zH} {Q : zQ} (hp : kd h p = 6)
    (K1 : (m p 4) = 0 → (m p 5) = -1 → Q (some (.inl 1)) m h) (K0 : ¬ ((m p 4) = 0 ∧ (m p 5) = -1) → Q (some (.inl 0)) m h) : zcal WP (d + 2) n_En_isSound [.inr (.inr p)] m h Q := by
  apply e_En_isSound
  apply s_En_isSound_0
  refine ⟨hp, fun q => ⟨Or.inl rfl, K0 (fun z => q z.1)⟩, fun q => ⟨hp, ?_⟩⟩
  apply e_En_isInShops
  apply s_En_isInShops_0
  have q' : m p 4 = 0 := by omega
  refine ⟨hp, fun q2 => ⟨Or.inl rfl, 0, rfl, fun z => absurd rfl z, fun _ => ⟨Or.inr rfl, K1 q' q2⟩⟩, fun q2 => ⟨Or.inr rfl, 1, rfl, fun _ => ⟨Or.inl rfl, K0 (fun z => q2 z.2)⟩, fun z => absurd (by decide) z⟩⟩
def xsd (m : zM) (p D : Int) : zM := if (m p 10) = D then m else
  if (m p 5) ≠ -1 ∧ (m p 5) ≤ D then zwr (zwr (zwr (zwr (zwr (zwr (zwr (zwr (zwr (zwr m p 10 D) p 11 0) p 13 0) p 14 0) p 2 (m p 1)) p 6 0) p 7 0) p 8 (m p 5)) p 9 (m p 5)) p 5 (-1)
  else zwr (zwr (zwr (zwr m p 10 D) p 11 0) p 13 0) p 14 0
theorem c_En_startDay {d : Nat} {p D : Int} {m : zM} {h : zH} {P : zM → zH → Prop} (hp : kd h p = 6 ∧ 142 < p) (K : P (xsd m p D) h) : zcal WP (d + 1) n_En_startDay [.inr (.inr p), .inl D] m h (zk0 P) := by
  obtain ⟨h1, h2⟩ := hp
  have h0 : 0 < p := by omega
  unfold xsd at K
  apply e_En_startDay
  apply s_En_startDay_0
  refine ⟨h1, fun q => ?_, fun q => ?_⟩
  · rw [if_neg q] at K
    simp only [forall_eq, zwr_ap, h1, h0, eq_self, true_and, and_true, Int.reduceEq, and_false, ↓reduceIte, true_or]
    refine ⟨fun z => ?_, fun z => ⟨fun z2 => ?_, fun z2 => ?_⟩⟩
    · rw [if_neg (by omega)] at K; exact ⟨rfl, K⟩
    · rw [if_neg (by omega)] at K; exact ⟨rfl, K⟩
    · rw [if_pos (by omega)] at K; exact ⟨rfl, K⟩
  · rw [if_pos (by omega)] at K
    exact ⟨rfl, K⟩
def xsa (m : zM) (p : Int) : zM := zwr (zwr (zwr (zwr (zwr (zwr (zwr (zwr (zwr m p 2 (m p 1)) p 3 (m p 1)) p 4 0) p 5 (-1)) p 6 0) p 7 0) p 8 0) p 9 0) p 10 (-1)
theorem c_En_startAnew {d : Nat} {p : Int} {m : zM} {h : zH} {P : zM → zH → Prop} (hp : kd h p = 6 ∧ 142 < p) (K : P (xsa m p) h) : zcal WP (d + 1) n_En_startAnew [.inr (.inr p)] m h (zk0 P) := by
  obtain ⟨h1, h2⟩ := hp
  have h0 : 0 < p := by omega
  unfold xsa at K
  apply e_En_startAnew
  apply s_En_startAnew_0
  simp only [forall_eq, zwr_ap, h1, h0, eq_self, true_and, and_true, Int.reduceEq, and_false, ↓reduceIte, true_or]
  exact ⟨rfl, K⟩
theorem c_En_wash {d : Nat} {p : Int} {m : zM} {h : zH} {P : zM → zH → Prop} (hp : kd h p = 6 ∧ 142 < p)
    (K1 : (m p 4) = 0 → (m p 5) = -1 → (m p 14) = 0 → P (zwr (zwr (zwr m p 6 0) p 8 (m p 10)) p 11 1) h) (K0 : ¬ ((m p 4) = 0 ∧ (m p 5) = -1 ∧ (m p 14) = 0) → P m h) : zcal WP (d + 3) n_En_wash [.inr (.inr p)] m h (zk0 P) := by
  obtain ⟨h1, h2⟩ := hp
  have h0 : 0 < p := by omega
  apply e_En_wash
  apply s_En_wash_0
  refine ⟨h1, c_En_isSound h1 (fun a b => ?_) (fun z => ?_)⟩
  · simp only [zk1_ap, forall_eq, zwr_ap, h1, h0, eq_self, true_and, and_true, Int.reduceEq, and_false, ↓reduceIte, or_true, zI1, zI2, not_false_eq_true]
    exact ⟨fun q => ⟨rfl, K1 a b q⟩, fun q => ⟨rfl, K0 (fun z => q z.2.2)⟩⟩
  · simp only [zk1_ap, not_true_eq_false, zI1, zI2, and_true]
    exact ⟨rfl, K0 (fun y => z ⟨y.1, y.2.1⟩)⟩
theorem c_En_look {d : Nat} {p : Int} {m : zM} {h : zH} {P : zM → zH → Prop} (hp : kd h p = 6 ∧ 142 < p)
    (K1 : (m p 4) = 0 → (m p 5) = -1 → P (zwr m p 9 (m p 10)) h) (K0 : ¬ ((m p 4) = 0 ∧ (m p 5) = -1) → P m h) : zcal WP (d + 3) n_En_look [.inr (.inr p)] m h (zk0 P) := by
  obtain ⟨h1, h2⟩ := hp
  have h0 : 0 < p := by omega
  apply e_En_look
  apply s_En_look_0
  refine ⟨h1, c_En_isSound h1 (fun a b => ?_) (fun z => ?_)⟩
  · simp only [zk1_ap, forall_eq, h1, h0, true_and, Int.reduceEq, zI1, zI2, not_false_eq_true]
    exact ⟨rfl, K1 a b⟩
  · simp only [zk1_ap, not_true_eq_false, zI1, zI2, and_true]
    exact ⟨rfl, K0 z⟩
theorem c_En_enterShops {d : Nat} {p u : Int} {m : zM} {h : zH} {P : zM → zH → Prop} (hp : kd h p = 6 ∧ 142 < p)
    (K1 : (m p 4) = 0 → (m p 5) = -1 → (m p 14) = 0 → (m p 10) < u → P (zwr m p 5 u) h) (K0 : ¬ ((m p 4) = 0 ∧ (m p 5) = -1 ∧ (m p 14) = 0 ∧ (m p 10) < u) → P m h) : zcal WP (d + 3) n_En_enterShops [.inr (.inr p), .inl u] m h (zk0 P) := by
  obtain ⟨h1, h2⟩ := hp
  have h0 : 0 < p := by omega
  apply e_En_enterShops
  apply s_En_enterShops_0
  refine ⟨h1, c_En_isSound h1 (fun a b => ?_) (fun z => ?_)⟩
  · simp only [zk1_ap, forall_eq, h1, h0, true_and, Int.reduceEq, zI1, zI2, not_false_eq_true]
    refine ⟨fun q => ⟨fun q2 => ⟨rfl, K0 (fun z => by omega)⟩, fun q2 => ⟨rfl, K1 a b q (by omega)⟩⟩, fun q => ⟨rfl, K0 (fun z => q z.2.2.1)⟩⟩
  · simp only [zk1_ap, not_true_eq_false, zI1, zI2, and_true]
    exact ⟨rfl, K0 (fun y => z ⟨y.1, y.2.1⟩)⟩
theorem c_En_lendTo {d : Nat} {p u : Int} {m : zM} {h : zH} {P : zM → zH → Prop} (hp : kd h p = 6 ∧ 142 < p)
    (K1 : (m p 4) = 0 → (m p 5) = -1 → u ≠ (m p 3) → P (zwr (zwr m p 3 u) p 2 u) h) (K0 : ¬ ((m p 4) = 0 ∧ (m p 5) = -1 ∧ u ≠ (m p 3)) → P m h) : zcal WP (d + 3) n_En_lendTo [.inr (.inr p), .inl u] m h (zk0 P) := by
  obtain ⟨h1, h2⟩ := hp
  have h0 : 0 < p := by omega
  apply e_En_lendTo
  apply s_En_lendTo_0
  refine ⟨h1, c_En_isSound h1 (fun a b => ?_) (fun z => ?_)⟩
  · simp only [zk1_ap, forall_eq, h1, h0, true_and, Int.reduceEq, zI1, zI2, not_false_eq_true]
    refine ⟨fun q => ⟨rfl, K0 (fun z => z.2.2 q)⟩, fun q => ⟨rfl, K1 a b q⟩⟩
  · simp only [zk1_ap, not_true_eq_false, zI1, zI2, and_true]
    exact ⟨rfl, K0 (fun y => z ⟨y.1, y.2.1⟩)⟩

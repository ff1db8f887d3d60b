/-! THE READING: the class judges a token. -/
def zkin (k : Int) : Prop := 0 ≤ k ∧ k < 43 ∧ k ≠ 5 ∧ ¬ (16 ≤ k ∧ k ≤ 19)
theorem xkd_n1 : ∀ k : Nat, k < 43 → (k = 5 ∨ 16 ≤ k ∧ k ≤ 19) ∨ ((xkd k = 13 ↔ (k : Int) = 20) ∧ (xkd k = 14 ↔ (k : Int) = 21 ∨ 23 ≤ (k : Int) ∧ (k : Int) ≤ 27) ∧ (xkd k = 1 ↔ (k : Int) = 0) ∧ (xkd k = 3 ↔ (k : Int) = 2) ∧ (xkd k = 7 ↔ (k : Int) = 4)) := by decide +kernel
theorem xkd_n2 : ∀ k : Nat, k < 43 → (k = 5 ∨ 16 ≤ k ∧ k ≤ 19) ∨ ((xkd k = 2 ↔ (k : Int) = 1) ∧ (xkd k = 12 ↔ (k : Int) = 22) ∧ (xkd k = 10 ↔ (k : Int) = 30) ∧ (xkd k = 4 ↔ 31 ≤ (k : Int)) ∧ (xkd k = 5 ↔ (k : Int) = 6)) := by decide +kernel
theorem xkd_n3 : ∀ k : Nat, k < 43 → (k = 5 ∨ 16 ≤ k ∧ k ≤ 19) ∨ ((xkd k = 8 ↔ (k : Int) = 8 ∨ (k : Int) = 9 ∨ (k : Int) = 10 ∨ (k : Int) = 15) ∧ (xkd k = 9 ↔ 11 ≤ (k : Int) ∧ (k : Int) ≤ 14) ∧ (xkd k = 11 ↔ (k : Int) = 28 ∨ (k : Int) = 29) ∧ (xkd k = 6 ↔ (k : Int) = 7)) := by decide +kernel
theorem xkd_i {k : Int} (h : zkin k) : (xkd k = 13 ↔ k = 20) ∧ (xkd k = 14 ↔ crw k) ∧ (xkd k = 1 ↔ k = 0) ∧ (xkd k = 3 ↔ k = 2) ∧ (xkd k = 7 ↔ k = 4) ∧ (xkd k = 2 ↔ k = 1) ∧ (xkd k = 12 ↔ k = 22) ∧ (xkd k = 10 ↔ k = 30) ∧ (xkd k = 4 ↔ 31 ≤ k) ∧ (xkd k = 5 ↔ k = 6) ∧ (xkd k = 8 ↔ car k) ∧ (xkd k = 9 ↔ 11 ≤ k ∧ k ≤ 14) ∧ (xkd k = 11 ↔ k = 28 ∨ k = 29) ∧ (xkd k = 6 ↔ k = 7) := by
  unfold zkin at h
  have a := (xkd_n1 k.toNat (by omega)).resolve_left (by omega)
  have b := (xkd_n2 k.toNat (by omega)).resolve_left (by omega)
  have c := (xkd_n3 k.toNat (by omega)).resolve_left (by omega)
  rw [show ((k.toNat : Nat) : Int) = k by omega] at a b c
  exact ⟨a.1, a.2.1, a.2.2.1, a.2.2.2.1, a.2.2.2.2, b.1, b.2.1, b.2.2.1, b.2.2.2.1, b.2.2.2.2, c.1, c.2.1, c.2.2.1, c.2.2.2⟩
/-- the reader's cells -/
def xPs (m : zM) (h : zH) (p : Int) (s : zCS) : Prop := ((m 9 3) = p ∧ ztx m h p) ∧ (m 9 12) = s.1 ∧ (m 9 13) = s.2.1 ∧ (m 9 14) = (s.2.2.1 : Int) ∧ (m 9 11) = (s.2.2.2.1 : Int) ∧ ((m 9 5) = (s.2.2.2.2.1.length : Int) ∧ xStk m s.2.2.2.2.1) ∧ xCds m p s.2.2.2.2.2.1 ∧ xRls m p s.2.2.2.2.2.2.1 ∧ m p 8 = s.2.2.2.2.2.2.2.1 ∧ (m 9 15) = (s.2.2.2.2.2.2.2.2 : Int)
theorem c_Rd_goesOnBehindUnit {d dep : Nat} {part k : Int} {m : zM} {h : zH} {P : Int → zM → zH → Prop} (L : zLay h) (hk : zkin k) (h8 : (m 9 8) = xkd k) (h13 : (m 9 13) = part) (h14 : (m 9 14) = (dep : Int)) (h2 : part = 0 ∨ part = 1 ∨ part = 2)
    (K1 : (car k ∨ (if 0 < dep then k = 7 else if part = 0 then k = 22 ∨ k = 4 else if part = 1 then 11 ≤ k ∧ k ≤ 14 else k = 28 ∨ k = 29 ∨ k = 4)) → P 1 m h) (K0 : ¬ (car k ∨ (if 0 < dep then k = 7 else if part = 0 then k = 22 ∨ k = 4 else if part = 1 then 11 ≤ k ∧ k ≤ 14 else k = 28 ∨ k = 29 ∨ k = 4)) → P 0 m h) : zcal WP (d + 1) n_Rd_goesOnBehindUnit [.inr (.inr 9)] m h (zk1 P) := by
  obtain ⟨x1, x2, x3, x4, x5, x6, x7, x8, x9, xa, xb, xc, xd, xe⟩ := xkd_i hk
  have one : (car k ∨ (if 0 < dep then k = 7 else if part = 0 then k = 22 ∨ k = 4 else if part = 1 then 11 ≤ k ∧ k ≤ 14 else k = 28 ∨ k = 29 ∨ k = 4)) → ((1 : Int) = 0 ∨ (1 : Int) = 1) ∧ zk1 P (some (.inl 1)) m h := fun q => ⟨Or.inr rfl, _, rfl, K1 q⟩
  have nil : ¬ (car k ∨ (if 0 < dep then k = 7 else if part = 0 then k = 22 ∨ k = 4 else if part = 1 then 11 ≤ k ∧ k ≤ 14 else k = 28 ∨ k = 29 ∨ k = 4)) → ((0 : Int) = 0 ∨ (0 : Int) = 1) ∧ zk1 P (some (.inl 0)) m h := fun q => ⟨Or.inl rfl, _, rfl, K0 q⟩
  apply e_Rd_goesOnBehindUnit
  apply s_Rd_goesOnBehindUnit_0
  rw [h8, h13, h14]
  refine ⟨k9 L, fun y1 => ?_, fun y1 => one (Or.inl (xb.1 (by omega)))⟩
  have nc : ¬ car k := fun q => y1 (xb.2 q)
  refine ⟨k9 L, fun y2 => ?_, fun y2 => ?_⟩
  · rw [if_neg (by omega : ¬ 0 < dep)] at one nil
    refine ⟨k9 L, fun y3 => ⟨k9 L, fun y4 => ?_, fun y4 => ?_⟩, fun y3 => ?_⟩
    · rw [if_neg y3, if_neg y4] at one nil
      refine ⟨k9 L, fun y5 => one (Or.inr (by have := xd.1 y5; omega)), fun y5 => ⟨k9 L, fun y6 => nil (fun q => ?_), fun y6 => one (Or.inr (Or.inr (Or.inr (x5.1 (by omega)))))⟩⟩
      rcases q with q | q | q | q
      · exact nc q
      · exact y5 (xd.2 (Or.inl q))
      · exact y5 (xd.2 (Or.inr q))
      · exact y6 (x5.2 q)
    · rw [if_neg y3, if_pos (by omega)] at one nil
      exact ⟨k9 L, fun y5 => nil (fun q => q.elim nc (fun q => y5 (xc.2 q))), fun y5 => one (Or.inr (xc.1 (by omega)))⟩
    · rw [if_pos (by omega)] at one nil
      refine ⟨k9 L, fun y5 => one (Or.inr (Or.inl (x7.1 y5))), fun y5 => ⟨k9 L, fun y6 => nil (fun q => ?_), fun y6 => one (Or.inr (Or.inr (x5.1 (by omega))))⟩⟩
      rcases q with q | q | q
      · exact nc q
      · exact y5 (x7.2 q)
      · exact y6 (x5.2 q)
  · rw [if_pos (by omega : 0 < dep)] at one nil
    exact ⟨k9 L, fun y5 => nil (fun q => q.elim nc (fun q => y5 (xe.2 q))), fun y5 => one (Or.inr (xe.1 (by omega)))⟩
set_option maxHeartbeats 1000000 in
theorem c_Rd_goesOn {d dep : Nat} {aw part k : Int} {m : zM} {h : zH} {P : Int → zM → zH → Prop} (L : zLay h) (hk : zkin k) (h8 : (m 9 8) = xkd k) (h12 : (m 9 12) = aw) (ha : 0 ≤ aw ∧ aw ≤ 8) (h13 : (m 9 13) = part) (h14 : (m 9 14) = (dep : Int)) (h2 : aw = 8 → part = 0 ∨ part = 1 ∨ part = 2)
    (K1 : cgo aw part dep k → P 1 m h) (K0 : ¬ cgo aw part dep k → P 0 m h) : zcal WP (d + 2) n_Rd_goesOn [.inr (.inr 9)] m h (zk1 P) := by
  obtain ⟨x1, x2, x3, x4, x5, x6, x7, x8, x9, xa, xb, xc, xd, xe⟩ := xkd_i hk
  have un : cun k ↔ (xkd k = 3 ∨ xkd k = 4 ∨ xkd k = 5) := by unfold cun; rw [x4, x9, xa]; omega
  have main : ∀ s0 : Int, (s0 = 0 ∨ s0 = 1) → (s0 = 1 ↔ cun k) → q_Rd_goesOn_29 (d + 1) 9 s0 m h (zk1 P) := fun s0 h01 hs => by
    have one : cgo aw part dep k → ((1 : Int) = 0 ∨ (1 : Int) = 1) ∧ zk1 P (some (.inl 1)) m h := fun q => ⟨Or.inr rfl, _, rfl, K1 q⟩
    have nil : ¬ cgo aw part dep k → ((0 : Int) = 0 ∨ (0 : Int) = 1) ∧ zk1 P (some (.inl 0)) m h := fun q => ⟨Or.inl rfl, _, rfl, K0 q⟩
    unfold cgo at one nil K1 K0
    apply s_Rd_goesOn_29
    rw [h12, h8]
    refine ⟨k9 L, fun a0 => ?_, fun a0 => ⟨fun a1 => ?_, fun a1 => ⟨fun a2 => ?_, fun a2 => ⟨fun a3 => ?_, fun a3 => ⟨fun a4 => ?_, fun a4 => ⟨fun a5 => ?_, fun a5 => ⟨fun a6 => ?_, fun a6 => ⟨fun a7 => ?_, fun a7 => ⟨k9 L, ?_⟩⟩⟩⟩⟩⟩⟩⟩⟩
    · rw [if_pos a0] at one nil
      refine ⟨k9 L, fun y => one (Or.inl (x1.1 y)), fun y => ⟨k9 L, fun y2 => one (Or.inr (Or.inl (x2.1 y2))), fun y2 => ⟨k9 L, fun y3 => nil (fun q => ?_), fun y3 => one (Or.inr (Or.inr (x3.1 (by omega))))⟩⟩⟩
      rcases q with q | q | q
      · exact y (x1.2 q)
      · exact y2 (x2.2 q)
      · exact y3 (x3.2 q)
    · rw [if_neg a0, if_pos a1] at one nil
      exact ⟨k9 L, fun y => nil (fun q => y (x4.2 q)), fun y => one (x4.1 (by omega))⟩
    · rw [if_neg a0, if_neg a1, if_pos a2] at one nil
      exact ⟨k9 L, fun y => nil (fun q => y (x5.2 q)), fun y => one (x5.1 (by omega))⟩
    · rw [if_neg a0, if_neg a1, if_neg a2, if_pos a3] at one nil
      refine ⟨k9 L, fun y2 => one (Or.inl (x2.1 y2)), fun y2 => ⟨k9 L, fun y3 => nil (fun q => ?_), fun y3 => one (Or.inr (x3.1 (by omega)))⟩⟩
      rcases q with q | q
      · exact y2 (x2.2 q)
      · exact y3 (x3.2 q)
    · rw [if_neg a0, if_neg a1, if_neg a2, if_neg a3, if_pos a4] at one nil
      exact ⟨k9 L, fun y => nil (fun q => y (x6.2 q)), fun y => one (x6.1 (by omega))⟩
    · rw [if_neg a0, if_neg a1, if_neg a2, if_neg a3, if_neg a4, if_pos a5] at one nil
      exact ⟨k9 L, fun y => nil (fun q => y (x7.2 q)), fun y => one (x7.1 (by omega))⟩
    · rw [if_neg a0, if_neg a1, if_neg a2, if_neg a3, if_neg a4, if_neg a5, if_pos a6] at one nil
      refine ⟨k9 L, fun y => one (Or.inl (x8.1 y)), fun y => ⟨fun y2 => nil (fun q => ?_), fun y2 => one (Or.inr (hs.1 (by omega)))⟩⟩
      rcases q with q | q
      · exact y (x8.2 q)
      · have := hs.2 q; omega
    · rw [if_neg a0, if_neg a1, if_neg a2, if_neg a3, if_neg a4, if_neg a5, if_neg a6, if_pos a7] at K1 K0
      refine ⟨h01, _, rfl, ?_⟩
      rcases h01 with y | y
      · rw [y]; exact K0 (fun q => by have := hs.2 q; omega)
      · rw [y]; exact K1 (hs.1 y)
    · rw [if_neg a0, if_neg a1, if_neg a2, if_neg a3, if_neg a4, if_neg a5, if_neg a6, if_neg a7] at K1 K0
      refine c_Rd_goesOnBehindUnit (part := part) (dep := dep) L hk h8 h13 h14 (h2 (by omega)) (fun q => ⟨Or.inr rfl, _, rfl, K1 q⟩) (fun q => ⟨Or.inl rfl, _, rfl, K0 q⟩)
  apply e_Rd_goesOn
  apply s_Rd_goesOn_0
  rw [h8]
  exact ⟨k9 L, fun y => main 1 (Or.inr rfl) ⟨fun _ => un.2 (Or.inl y), fun _ => rfl⟩, fun y => ⟨k9 L, fun y2 => main 1 (Or.inr rfl) ⟨fun _ => un.2 (Or.inr (Or.inl y2)), fun _ => rfl⟩, fun y2 => ⟨k9 L, fun y3 => main 0 (Or.inl rfl) ⟨fun q => absurd q (by decide), fun q => by rcases un.1 q with z | z | z <;> omega⟩, fun y3 => main 1 (Or.inr rfl) ⟨fun _ => un.2 (Or.inr (Or.inr (by omega))), fun _ => rfl⟩⟩⟩⟩
set_option maxHeartbeats 1000000 in
theorem c_Rd_judge {d : Nat} {p k : Int} {s : zCS} {m : zM} {h : zH} {P : Int → zM → zH → Prop} (L : zLay h) (S : xPs m h p s) (hk : zkin k) (h8 : (m 9 8) = xkd k) (ha : 0 ≤ s.1 ∧ s.1 ≤ 8) (h2 : s.1 = 8 → s.2.1 = 0 ∨ s.2.1 = 1 ∨ s.2.1 = 2)
    (K1 : ¬ cgo s.1 s.2.1 s.2.2.1 k → P 1 m h) (K2 : cgo s.1 s.2.1 s.2.2.1 k → cfu s.2.2.1 s.2.2.2.1 s.2.2.2.2.2.2.1.length k → P 2 m h) (K0 : cgo s.1 s.2.1 s.2.2.1 k → ¬ cfu s.2.2.1 s.2.2.2.1 s.2.2.2.2.2.2.1.length k → P 0 m h) : zcal WP (d + 3) n_Rd_judge [.inr (.inr 9)] m h (zk1 P) := by
  obtain ⟨⟨s1, s2⟩, s3, s4, s5, s6, s7, s8, ⟨s9, _⟩, _⟩ := S
  obtain ⟨x1, x2, x3, x4, x5, x6, x7, x8, x9, xa, xb, xc, xd, xe⟩ := xkd_i hk
  apply e_Rd_judge
  apply s_Rd_judge_0
  refine ⟨k9 L, ?_⟩
  refine c_Rd_goesOn (part := s.2.1) (dep := s.2.2.1) L hk h8 s3 ha s4 s5 h2 (fun q => ⟨fun _ => ?_, fun z => absurd (by decide) z⟩) (fun q => ⟨fun z => absurd rfl z, fun _ => ⟨_, rfl, K1 q⟩⟩)
  have K2' := K2 q
  have K0' := K0 q
  unfold cfu at K2' K0'
  have j65 : (k ≠ 0 ∧ 400 ≤ s.2.2.2.1 ∨ crw k ∧ 24 ≤ s.2.2.2.2.2.2.1.length ∨ k = 6 ∧ 6 ≤ s.2.2.1) → q_Rd_judge_65 (d + 2) m h (zk1 P) := fun y => by
    apply s_Rd_judge_65
    exact ⟨fun z => absurd z (by decide), fun _ => ⟨_, rfl, K2' y⟩⟩
  have j48 : ¬ (k ≠ 0 ∧ 400 ≤ s.2.2.2.1) → ¬ (crw k ∧ 24 ≤ s.2.2.2.2.2.2.1.length) → q_Rd_judge_48 (d + 2) 9 m h (zk1 P) := fun n1 n2 => by
    apply s_Rd_judge_48
    rw [h8, s5]
    refine ⟨k9 L, fun y => ⟨fun _ => ⟨_, rfl, K0' (fun z => ?_)⟩, fun z => absurd rfl z⟩, fun y => ⟨k9 L, fun y2 => ⟨fun _ => ⟨_, rfl, K0' (fun z => ?_)⟩, fun z => absurd rfl z⟩, fun y2 => j65 (Or.inr (Or.inr ⟨xa.1 (by omega), by omega⟩))⟩⟩
    · rcases z with z | z | z
      · exact n1 z
      · exact n2 z
      · exact y (xa.2 z.1)
    · rcases z with z | z | z
      · exact n1 z
      · exact n2 z
      · omega
  have j27 : ¬ (k ≠ 0 ∧ 400 ≤ s.2.2.2.1) → q_Rd_judge_27 (d + 2) 9 m h (zk1 P) := fun n1 => by
    apply s_Rd_judge_27
    rw [h8, s1, s9]
    exact ⟨k9 L, fun y => j48 n1 (fun z => y (x2.2 z.1)), fun y => ⟨k9 L, s2.2.2.1, fun y2 => j65 (Or.inr (Or.inl ⟨x2.1 (by omega), by omega⟩)), fun y2 => j48 n1 (fun z => by omega)⟩⟩
  rw [h8, s6]
  exact ⟨k9 L, fun y => j27 (fun z => z.1 (x3.1 y)), fun y => ⟨k9 L, fun y2 => j65 (Or.inl ⟨fun z => y (x3.2 z), by omega⟩), fun y2 => j27 (fun z => by omega)⟩⟩

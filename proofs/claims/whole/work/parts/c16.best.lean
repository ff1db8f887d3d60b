/-! THE LAW: the best. -/
/-- the duties given -/
def zbup (g m1 : zM) : zM := fun i j => if i = 130 ∧ 0 ≤ j ∧ j < (g 54 52) then m1 29 j else if i = 54 ∧ j = 100 then 1 else if i = 54 ∧ j = 101 then m1 28 1 else g i j
theorem zbup_o (g m1 : zM) (i j : Int) (h : ¬ (i = 130 ∧ 0 ≤ j ∧ j < (g 54 52))) (h2 : ¬ (i = 54 ∧ (j = 100 ∨ j = 101))) : zbup g m1 i j = g i j := by
  unfold zbup
  rw [if_neg h, if_neg (by omega), if_neg (by omega)]
theorem k_best (N : Int) (xs : Nat → Int32) {d : Nat} {D ts n : Int} : zOK N xs (d + 12) n_Es_best n_Mo_best [.inl D, .inl ts, .inl n] := by
  intro g X m h R I K
  have L := I.1
  have S := zI_st I
  have G := zI_gd I
  by_cases cn : zbcon g D ts n
  · have tp := zbT_12 G.2.2.1 ts.toNat
    refine zcal_weak (zcal_all (fun _ _ => (0 : Int)) (P := fun s => zk1 fun r m1 h1 => h1 = h ∧ xfrd h m m1 ∧ zoc m1 X ∧ xset g m1 X ∧ ((∃ x, zbes g s X D ts.toNat n = some x ∧ r = x ∧ m1 28 1 = 0 ∧ (∀ i : Nat, i < (zbT g ts.toNat).length → m1 29 (((zbT g ts.toNat).getD i 0 : Nat) : Int) = (zbch g s X D ts.toNat n i : Nat)) ∧ (∀ j : Int, 0 ≤ j → j < 12 → (∀ i : Nat, i < (zbT g ts.toNat).length → (((zbT g ts.toNat).getD i 0 : Nat) : Int) ≠ j) → m1 29 j = -1)) ∨ (zbes g s X D ts.toNat n = none ∧ r = -2 ∧ m1 28 1 = (zbla g s X D ts.toNat n : Nat) ∧ ∀ j : Int, 0 ≤ j → j < 12 → m1 29 j = -1))) fun s => ?_) ?_
    · exact c_Es_best L S G (zI_oc I) (zI_set I) (fun q => absurd cn q) (fun _ x hx m' w c s' l a b => ⟨_, rfl, rfl, w, c, s', Or.inl ⟨x, hx, rfl, l, a, b⟩⟩) (fun _ hx m' w c s' l b => ⟨_, rfl, rfl, w, c, s', Or.inr ⟨hx, rfl, l, b⟩⟩)
    · intro r m1 h1 q
      obtain ⟨v, hv, eh, w, c1, s1, _⟩ := q (fun _ _ => 0)
      subst eh
      have S1 := xst_frd S w
      have sc : zScr N xs m1 h1 := zScr_fr I.2.1 rfl fun j => w (-1) j (by omega) (by omega) (by omega) (by omega) (by omega) (by omega) (by omega)
      have im : zINm g X m1 := zINm_cl I.2.2.2.1 fun i j y => w i j (by omega) (by omega) (by omega) (by omega) (by omega) (by omega) (by omega)
      refine ⟨v, hv, L, sc, ?_⟩
      have fin : ∀ m2 : zM, zbq m1 m2 → zfc m2 X → zgc g m2 X → (m2 54 100) = 1 → (∀ j : Int, ¬ (0 ≤ j ∧ j < (g 54 52)) → m2 130 j = m1 130 j) → (∀ j : Int, (g 54 52) ≤ j → j < 12 → m1 29 j = -1) → (∀ j : Int, 0 ≤ j → j < (g 54 52) → m2 130 j = m1 29 j) → m2 54 101 = m1 28 1 → R m2 h1 := by
        intro m2 p f2 gc2 t2 k2 e29 e130 e101
        have go := zbup_o g m1
        have H : zgup g (zbup g m1) := zgup_of (fun j _ => go 54 j (by omega) (by omega)) fun i j _ _ => go i j (by omega) (by omega)
        have he : ((zbup g m1) 54 47) = (g 54 47) := go 54 47 (by omega) (by omega)
        have ht : ((zbup g m1) 54 52) = (g 54 52) := go 54 52 (by omega) (by omega)
        have u100 : zbup g m1 54 100 = 1 := by unfold zbup; rw [if_neg (by omega), if_pos ⟨rfl, rfl⟩]
        have u101 : zbup g m1 54 101 = m1 28 1 := by unfold zbup; rw [if_neg (by omega), if_neg (by omega), if_pos ⟨rfl, rfl⟩]
        have u130 : ∀ j, 0 ≤ j → j < (g 54 52) → zbup g m1 130 j = m1 29 j := fun j a b => by unfold zbup; rw [if_pos ⟨rfl, a, b⟩]
        have ww : ∀ i j, ¬ (28 ≤ i ∧ i ≤ 34) → ¬ (i = 3 ∨ i = 4 ∨ i = 7 ∨ i = 8 ∨ i = 27) → ¬ (i = 2 ∧ (j = 2 ∨ j = 6 ∨ j = 9 ∨ j = 10)) → ¬ (i = 19 ∧ 15 ≤ j ∧ j ≤ 19) → ¬ (142 < i) → m1 i j = m i j := fun i j y1 y2 y3 y4 y5 => w i j (by omega) (by omega) y2 y3 y4 (by omega) (by omega)
        have F2 : zFix m2 := zbq_F S1.1 p
        have D' : xDut (zbup g m1) m1 := by
          unfold xDut
          rw [u100, u101, ht]
          refine ⟨fun z => absurd z (by decide), fun _ => rfl, fun k k0 k1 => ⟨fun z => ?_, fun z => ?_⟩⟩
          · exact e29 k (by omega) k1
          · rw [u130 k k0 z.2]
        have C1 : zINc (zbup g m1) X m1 h1 := zINc_s L I.2.2.1 (fun i j y => go i j (by omega) (by omega)) (fun i j a1 a2 a3 a4 a5 a6 a7 a8 => w i j (by omega) (by omega) (by omega) a3 a4 a7 a8) S1.1 (xTape_cg I.2.2.1.2.2.1 (fun i j y => go i j (by omega) (by omega)) fun i j y => ww i j (by omega) (by omega) (by omega) (by omega) (by omega)) D' (xStab_cg (zI_Stab I) (Int.le_of_eq he.symm) (fun i j y => go i j (by omega) (by omega)) fun i j y => ww i j (by omega) (by omega) (by omega) (by omega) (by omega)) (xCal_cg (zI_Cal I) (Int.le_of_eq he.symm) (fun i j y => go i j (by omega) (by omega)) fun i j y => ww i j (by omega) (by omega) (by omega) (by omega) (by omega)) c1 (xset_cg s1 S1 H he (fun _ _ _ => rfl) (fun _ _ _ => rfl) (fun _ _ _ => rfl) (fun _ _ _ _ _ => rfl))
        have pm : zmo m1 m2 := fun i j y => p i j (by omega) (by omega) (by omega) (by omega) (by omega)
        refine K (zbup g m1) X m2 h1 ⟨L, zScr_fr sc rfl fun j => pm (-1) j (by omega), zINc_mo L C1 pm F2, zINm_g im (fun i j y => ?_) (fun i j y => go i j (by omega) (by omega)) (ytp_cg im.2.2.2.2.1 fun i j y => go i j (by omega) (by omega)) (fun k a b => ?_) (zgc_cg gc2 (zgup_ge H he) G (Int.le_of_eq (go 54 61 (by omega) (by omega)).symm) (fun _ _ _ _ => rfl) rfl) f2, ?_⟩
        · have dd := zdt_in y
          by_cases z : i = 130 ∧ 0 ≤ j ∧ j < (g 54 52)
          · obtain ⟨z1, z2, z3⟩ := z
            subst z1
            rw [u130 j z2 z3]; exact e130 j z2 z3
          · by_cases z2 : i = 54 ∧ (j = 100 ∨ j = 101)
            · obtain ⟨z3, z4⟩ := z2
              subst z3
              rcases z4 with z4 | z4
              · subst z4; rw [u100]; exact t2
              · subst z4; rw [u101]; exact e101
            · rw [go i j z z2, ← im.1 i j y]
              by_cases z3 : i = 130
              · subst z3; exact k2 j (by omega)
              · refine p i j (by omega) (by omega) (by omega) (by omega) fun x => ?_
                have n (a : Int) (x : zdt 54 a = false) : ¬ (i = 54 ∧ j = a) := zdt_nf x y
                have := n 41 rfl
                have := n 42 rfl
                have := n 43 rfl
                have := n 67 rfl
                have := n 98 rfl
                omega
        · rw [ht] at a
          rw [go 130 k (by omega) (by omega)]; exact im.2.2.2.2.2.1 k a b
        · have b := I.2.2.2.2
          unfold zbnd at b ⊢
          rw [he, ht, go 54 61 (by omega) (by omega)]; exact b
      refine c_Mo_best S1.1 L im.1 im.2.1 G im.2.2.2.2.2.2.2 im.2.2.2.2.2.2.1 (fun q => absurd cn q) (fun _ m2 s p f c t k130 => ⟨fun x hx l a b => ⟨_, rfl, ?_⟩, fun hx l b => ⟨_, rfl, ?_⟩⟩)
      · obtain ⟨v', hv', _, _, _, _, z⟩ := q s
        rw [hv] at hv'
        have ev : v = v' := by simpa using hv'
        rcases z with ⟨x', hx', e1, e2, e3, e4⟩ | ⟨hx', _⟩
        · rw [hx] at hx'
          have ex : x = x' := by simpa using hx'
          refine ⟨by omega, fin m2 p f c t k130 (fun j j0 j1 => e4 j (by have := G.2.2.1.1; omega) j1 fun i hi => by have := tp.2 i hi; omega) (fun j j0 j1 => ?_) (by rw [e2]; exact l)⟩
          by_cases y : ∃ i : Nat, i < (zbT g ts.toNat).length ∧ (((zbT g ts.toNat).getD i 0 : Nat) : Int) = j
          · obtain ⟨i, hi, ei⟩ := y
            rw [← ei, a i hi, e3 i hi]
          · have y' : ∀ i : Nat, i < (zbT g ts.toNat).length → (((zbT g ts.toNat).getD i 0 : Nat) : Int) ≠ j := fun i hi e => y ⟨i, hi, e⟩
            rw [b j j0 j1 y', e4 j j0 (by have := G.2.2.1.2; omega) y']
        · rw [hx] at hx'; cases hx'
      · obtain ⟨v', hv', _, _, _, _, z⟩ := q s
        rw [hv] at hv'
        have ev : v = v' := by simpa using hv'
        rcases z with ⟨x', hx', _⟩ | ⟨hx', e1, e2, e3⟩
        · rw [hx] at hx'; cases hx'
        · refine ⟨by omega, fin m2 p f c t k130 (fun j j0 j1 => e3 j (by have := G.2.2.1.1; omega) j1) (fun j j0 j1 => ?_) (by rw [e2]; exact l)⟩
          rw [b j j0 j1, e3 j j0 (by have := G.2.2.1.2; omega)]
  · refine c_Es_best (s := fun _ _ => 0) L S G (zI_oc I) (zI_set I) (fun _ => ⟨_, rfl, L, I.2.1, ?_⟩) (fun q => absurd q cn) (fun q => absurd q cn)
    exact c_Mo_best (zI_F I) L (zI_A I) (zI_T I) G (zI_fc I) (zI_gc I) (fun _ => ⟨_, rfl, rfl, K g X m h I⟩) (fun q => absurd q cn)

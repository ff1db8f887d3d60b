/-! THE LAW of the abstract machine. -/
theorem zlaw : zLaw := by
  intro L xs hL
  refine e_Lw_law 2045 (-1) (zm0 xs) (zh0 L) _ ?_
  apply s_Lw_law_0
  intro m1 h1 e1 e2
  have B0 : zB L xs 0 [] (zm0 xs) (zh0 L) := ⟨rfl, (by decide +kernel : (0 : Int) = zyu 0), fun i i0 i1 => by omega, fun i _ => ⟨rfl, rfl⟩, fun i j _ => rfl, fun i j i0 i1 => by omega, fun x hx => by cases hx⟩
  have B1 : zB L xs 1 [] m1 h1 := zB_al B0 e1 e2 (by decide) (by decide) (by decide +kernel)
  rw [show nx (zh0 L) = 1 from rfl]
  refine ⟨(B1.2.2.1 1 (by decide) (by decide)).1, cB_Es (d := 2040) B1 fun m2 h2 B2 => ?_⟩
  intro m3 h3 e3 e4
  have n2 : nx h2 = 54 := B2.1
  rw [n2]
  have B3 : zB L xs 54 zW_Es m3 h3 := zB_al B2 e3 e4 (by decide) (by decide) (by decide +kernel)
  refine ⟨(B3.2.2.1 54 (by decide) (by decide)).1, cB_Mo (d := 2040) B3 fun m4 h4 B4 => ?_⟩
  refine zlq_loop (d := 2033) (N := (L : Int)) (by omega) (by omega) (fun g X m h I => ?_) L 0 m4 [] m4 h4 (by omega) (zINV_0 B4)
  have G := zI_gd I
  have x6 := (zI_T I).2.1
  have b := I.2.2.2.2
  unfold zbnd at b
  have g1 := G.1
  have g2 := G.2.1
  have g3 := G.2.2.1
  exact ⟨rfl, by omega, by omega⟩

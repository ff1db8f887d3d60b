/-! THE CONSTRUCTOR of the model (geninit.py). -/
def zW_Mo : List (Int × Int) := (61, 22) :: (61, 21) :: (61, 20) :: (61, 19) :: (61, 18) :: (61, 17) :: (61, 16) :: (61, 15) :: (61, 14) :: (61, 13) :: (61, 12) :: (61, 11) :: (61, 10) :: (61, 9) :: (61, 8) :: (61, 7) :: (61, 6) :: (61, 5) :: (61, 4) :: (61, 3) :: (61, 2) :: (61, 1) :: (61, 0) :: (54, 119) :: (54, 116) :: (54, 114) :: (54, 113) :: (54, 112) :: (54, 111) :: (54, 110) :: (54, 109) :: (54, 108) :: (54, 107) :: (54, 104) :: (54, 103) :: (54, 102) :: (54, 99) :: (54, 97) :: (54, 96) :: (54, 95) :: (54, 94) :: (54, 93) :: (54, 92) :: (54, 91) :: (54, 90) :: (54, 89) :: (54, 88) :: (54, 87) :: (54, 86) :: (54, 85) :: (54, 84) :: (54, 83) :: (54, 82) :: (54, 81) :: (54, 80) :: (54, 79) :: (54, 78) :: (54, 77) :: (54, 76) :: (54, 75) :: (54, 74) :: (54, 73) :: (54, 72) :: (54, 71) :: (54, 70) :: (54, 69) :: (54, 68) :: (54, 67) :: (54, 66) :: (54, 65) :: (54, 64) :: (54, 63) :: (54, 62) :: (54, 60) :: (54, 59) :: (54, 58) :: (54, 57) :: (54, 56) :: (54, 55) :: (54, 54) :: (54, 53) :: (54, 51) :: (54, 49) :: (54, 48) :: (54, 46) :: (54, 44) :: (54, 42) :: (54, 40) :: (54, 39) :: (54, 37) :: (54, 36) :: (54, 35) :: (54, 33) :: (54, 32) :: (54, 31) :: (54, 30) :: (54, 29) :: (54, 28) :: (54, 26) :: (54, 25) :: (54, 24) :: (54, 23) :: (54, 22) :: (54, 21) :: (54, 20) :: (54, 19) :: (54, 17) :: (54, 9) :: (54, 8) :: (54, 7) :: (54, 6) :: (54, 5) :: (54, 3) :: (54, 1) :: zW_Es
set_option maxHeartbeats 40000000 in
theorem cB_Mo {d N : Nat} {xs : Nat → Int32} {m : zM} {h : zH} {P : zM → zH → Prop} (B0 : zB N xs 54 zW_Es m h) (K : ∀ m' h', zB N xs 142 (zye 130 12 ++ (zye2 9 ++ (zye 135 72 ++ (zye 82 25 ++ zW_Mo)))) m' h' → P m' h') : zcal WP (d + 5) n_Mo_init [.inr (.inr 54)] m h (zk0 P) := by
  apply e_Mo_init
  apply s_Mo_init_0
  have x_h : nx h = 55 := B0.1
  refine ⟨by decide, by decide, by decide, fun m1 h1 e f => ?_⟩
  have B1 : zB N xs 55 _ m1 h1 := zB_al B0 e f (by decide) (by decide) (by decide +kernel)
  clear e f
  have x_h1 : nx h1 = 56 := B1.1
  refine ⟨(B1.2.2.1 54 (by decide) (by decide)).1, by decide, fun m2 e => ?_⟩
  have B2 := zB_wr B1 e (by decide) (by rw [x_h]; decide +kernel)
  clear e
  refine ⟨by decide, by decide, fun m3 h3 e f => ?_⟩
  have B3 : zB N xs 56 _ m3 h3 := zB_al B2 e f (by decide) (by decide) (by decide +kernel)
  clear e f
  have x_h3 : nx h3 = 57 := B3.1
  refine ⟨(B3.2.2.1 54 (by decide) (by decide)).1, by decide, fun m4 e => ?_⟩
  have B4 := zB_wr B3 e (by decide) (by rw [x_h1]; decide +kernel)
  clear e
  refine ⟨by decide, by decide, fun m5 h5 e f => ?_⟩
  have B5 : zB N xs 57 _ m5 h5 := zB_al B4 e f (by decide) (by decide) (by decide +kernel)
  clear e f
  have x_h5 : nx h5 = 58 := B5.1
  refine ⟨(B5.2.2.1 54 (by decide) (by decide)).1, by decide, fun m6 e => ?_⟩
  have B6 := zB_wr B5 e (by decide) (by rw [x_h3]; decide +kernel)
  clear e
  refine ⟨by decide, by decide, fun m7 h7 e f => ?_⟩
  have B7 : zB N xs 58 _ m7 h7 := zB_al B6 e f (by decide) (by decide) (by decide +kernel)
  clear e f
  have x_h7 : nx h7 = 59 := B7.1
  refine ⟨(B7.2.2.1 54 (by decide) (by decide)).1, by decide, fun m8 e => ?_⟩
  have B8 := zB_wr B7 e (by decide) (by rw [x_h5]; decide +kernel)
  clear e
  refine ⟨by decide, by decide, fun m9 h9 e f => ?_⟩
  have B9 : zB N xs 59 _ m9 h9 := zB_al B8 e f (by decide) (by decide) (by decide +kernel)
  clear e f
  have x_h9 : nx h9 = 60 := B9.1
  refine ⟨(B9.2.2.1 54 (by decide) (by decide)).1, by decide, fun m10 e => ?_⟩
  have B10 := zB_wr B9 e (by decide) (by rw [x_h7]; decide +kernel)
  clear e
  refine ⟨by decide, by decide, fun m11 h11 e f => ?_⟩
  have B11 : zB N xs 60 _ m11 h11 := zB_al B10 e f (by decide) (by decide) (by decide +kernel)
  clear e f
  have x_h11 : nx h11 = 61 := B11.1
  refine ⟨(B11.2.2.1 54 (by decide) (by decide)).1, by decide, fun m12 e => ?_⟩
  have B12 := zB_wr B11 e (by decide) (by rw [x_h9]; decide +kernel)
  clear e
  refine ⟨by decide, by decide, fun m13 h13 e f => ?_⟩
  have B13 : zB N xs 61 _ m13 h13 := zB_al B12 e f (by decide) (by decide) (by decide +kernel)
  clear e f
  have x_h13 : nx h13 = 62 := B13.1
  refine ⟨(B13.2.2.1 54 (by decide) (by decide)).1, by decide, fun m14 e => ?_⟩
  have B14 := zB_wr B13 e (by decide) (by rw [x_h11]; decide +kernel)
  clear e
  refine ⟨(B14.2.2.1 54 (by decide) (by decide)).1, by decide, fun m15 e => ?_⟩
  have B15 := zB_wr B14 e (by decide) (by decide +kernel)
  clear e
  refine ⟨by decide, by decide, fun m16 h16 e f => ?_⟩
  have B16 : zB N xs 62 _ m16 h16 := zB_al B15 e f (by decide) (by decide) (by decide +kernel)
  clear e f
  have x_h16 : nx h16 = 63 := B16.1
  refine ⟨(B16.2.2.1 54 (by decide) (by decide)).1, by decide, fun m17 e => ?_⟩
  have B17 := zB_wr B16 e (by decide) (by rw [x_h13]; decide +kernel)
  clear e
  refine ⟨by decide, by decide, fun m18 h18 e f => ?_⟩
  have B18 : zB N xs 63 _ m18 h18 := zB_al B17 e f (by decide) (by decide) (by decide +kernel)
  clear e f
  have x_h18 : nx h18 = 64 := B18.1
  refine ⟨(B18.2.2.1 54 (by decide) (by decide)).1, by decide, fun m19 e => ?_⟩
  have B19 := zB_wr B18 e (by decide) (by rw [x_h16]; decide +kernel)
  clear e
  refine ⟨by decide, by decide, fun m20 h20 e f => ?_⟩
  have B20 : zB N xs 64 _ m20 h20 := zB_al B19 e f (by decide) (by decide) (by decide +kernel)
  clear e f
  have x_h20 : nx h20 = 65 := B20.1
  refine ⟨(B20.2.2.1 54 (by decide) (by decide)).1, by decide, fun m21 e => ?_⟩
  have B21 := zB_wr B20 e (by decide) (by rw [x_h18]; decide +kernel)
  clear e
  refine ⟨by decide, by decide, fun m22 h22 e f => ?_⟩
  have B22 : zB N xs 65 _ m22 h22 := zB_al B21 e f (by decide) (by decide) (by decide +kernel)
  clear e f
  have x_h22 : nx h22 = 66 := B22.1
  refine ⟨(B22.2.2.1 54 (by decide) (by decide)).1, by decide, fun m23 e => ?_⟩
  have B23 := zB_wr B22 e (by decide) (by rw [x_h20]; decide +kernel)
  clear e
  refine ⟨by decide, by decide, fun m24 h24 e f => ?_⟩
  have B24 : zB N xs 66 _ m24 h24 := zB_al B23 e f (by decide) (by decide) (by decide +kernel)
  clear e f
  have x_h24 : nx h24 = 67 := B24.1
  refine ⟨(B24.2.2.1 54 (by decide) (by decide)).1, by decide, fun m25 e => ?_⟩
  have B25 := zB_wr B24 e (by decide) (by rw [x_h22]; decide +kernel)
  clear e
  refine ⟨by decide, by decide, fun m26 h26 e f => ?_⟩
  have B26 : zB N xs 67 _ m26 h26 := zB_al B25 e f (by decide) (by decide) (by decide +kernel)
  clear e f
  have x_h26 : nx h26 = 68 := B26.1
  refine ⟨(B26.2.2.1 54 (by decide) (by decide)).1, by decide, fun m27 e => ?_⟩
  have B27 := zB_wr B26 e (by decide) (by rw [x_h24]; decide +kernel)
  clear e
  refine ⟨by decide, by decide, fun m28 h28 e f => ?_⟩
  have B28 : zB N xs 68 _ m28 h28 := zB_al B27 e f (by decide) (by decide) (by decide +kernel)
  clear e f
  have x_h28 : nx h28 = 69 := B28.1
  refine ⟨(B28.2.2.1 54 (by decide) (by decide)).1, by decide, fun m29 e => ?_⟩
  have B29 := zB_wr B28 e (by decide) (by rw [x_h26]; decide +kernel)
  clear e
  refine ⟨by decide, by decide, fun m30 h30 e f => ?_⟩
  have B30 : zB N xs 69 _ m30 h30 := zB_al B29 e f (by decide) (by decide) (by decide +kernel)
  clear e f
  have x_h30 : nx h30 = 70 := B30.1
  refine ⟨(B30.2.2.1 54 (by decide) (by decide)).1, by decide, fun m31 e => ?_⟩
  have B31 := zB_wr B30 e (by decide) (by rw [x_h28]; decide +kernel)
  clear e
  refine ⟨by decide, by decide, fun m32 h32 e f => ?_⟩
  have B32 : zB N xs 70 _ m32 h32 := zB_al B31 e f (by decide) (by decide) (by decide +kernel)
  clear e f
  have x_h32 : nx h32 = 71 := B32.1
  refine ⟨(B32.2.2.1 54 (by decide) (by decide)).1, by decide, fun m33 e => ?_⟩
  have B33 := zB_wr B32 e (by decide) (by rw [x_h30]; decide +kernel)
  clear e
  refine ⟨by decide, by decide, fun m34 h34 e f => ?_⟩
  have B34 : zB N xs 71 _ m34 h34 := zB_al B33 e f (by decide) (by decide) (by decide +kernel)
  clear e f
  have x_h34 : nx h34 = 72 := B34.1
  refine ⟨(B34.2.2.1 54 (by decide) (by decide)).1, by decide, fun m35 e => ?_⟩
  have B35 := zB_wr B34 e (by decide) (by rw [x_h32]; decide +kernel)
  clear e
  refine ⟨by decide, by decide, fun m36 h36 e f => ?_⟩
  have B36 : zB N xs 72 _ m36 h36 := zB_al B35 e f (by decide) (by decide) (by decide +kernel)
  clear e f
  have x_h36 : nx h36 = 73 := B36.1
  refine ⟨(B36.2.2.1 54 (by decide) (by decide)).1, by decide, fun m37 e => ?_⟩
  have B37 := zB_wr B36 e (by decide) (by rw [x_h34]; decide +kernel)
  clear e
  refine ⟨by decide, by decide, fun m38 h38 e f => ?_⟩
  have B38 : zB N xs 73 _ m38 h38 := zB_al B37 e f (by decide) (by decide) (by decide +kernel)
  clear e f
  have x_h38 : nx h38 = 74 := B38.1
  refine ⟨(B38.2.2.1 54 (by decide) (by decide)).1, by decide, fun m39 e => ?_⟩
  have B39 := zB_wr B38 e (by decide) (by rw [x_h36]; decide +kernel)
  clear e
  refine ⟨by decide, by decide, fun m40 h40 e f => ?_⟩
  have B40 : zB N xs 74 _ m40 h40 := zB_al B39 e f (by decide) (by decide) (by decide +kernel)
  clear e f
  have x_h40 : nx h40 = 75 := B40.1
  refine ⟨(B40.2.2.1 54 (by decide) (by decide)).1, by decide, fun m41 e => ?_⟩
  have B41 := zB_wr B40 e (by decide) (by rw [x_h38]; decide +kernel)
  clear e
  refine ⟨by decide, by decide, fun m42 h42 e f => ?_⟩
  have B42 : zB N xs 75 _ m42 h42 := zB_al B41 e f (by decide) (by decide) (by decide +kernel)
  clear e f
  have x_h42 : nx h42 = 76 := B42.1
  refine ⟨(B42.2.2.1 54 (by decide) (by decide)).1, by decide, fun m43 e => ?_⟩
  have B43 := zB_wr B42 e (by decide) (by rw [x_h40]; decide +kernel)
  clear e
  refine ⟨by decide, by decide, fun m44 h44 e f => ?_⟩
  have B44 : zB N xs 76 _ m44 h44 := zB_al B43 e f (by decide) (by decide) (by decide +kernel)
  clear e f
  have x_h44 : nx h44 = 77 := B44.1
  refine ⟨(B44.2.2.1 54 (by decide) (by decide)).1, by decide, fun m45 e => ?_⟩
  have B45 := zB_wr B44 e (by decide) (by rw [x_h42]; decide +kernel)
  clear e
  refine ⟨by decide, by decide, fun m46 h46 e f => ?_⟩
  have B46 : zB N xs 77 _ m46 h46 := zB_al B45 e f (by decide) (by decide) (by decide +kernel)
  clear e f
  have x_h46 : nx h46 = 78 := B46.1
  refine ⟨(B46.2.2.1 54 (by decide) (by decide)).1, by decide, fun m47 e => ?_⟩
  have B47 := zB_wr B46 e (by decide) (by rw [x_h44]; decide +kernel)
  clear e
  refine ⟨by decide, by decide, fun m48 h48 e f => ?_⟩
  have B48 : zB N xs 78 _ m48 h48 := zB_al B47 e f (by decide) (by decide) (by decide +kernel)
  clear e f
  have x_h48 : nx h48 = 79 := B48.1
  refine ⟨(B48.2.2.1 54 (by decide) (by decide)).1, by decide, fun m49 e => ?_⟩
  have B49 := zB_wr B48 e (by decide) (by rw [x_h46]; decide +kernel)
  clear e
  refine ⟨by decide, by decide, fun m50 h50 e f => ?_⟩
  have B50 : zB N xs 79 _ m50 h50 := zB_al B49 e f (by decide) (by decide) (by decide +kernel)
  clear e f
  have x_h50 : nx h50 = 80 := B50.1
  refine ⟨(B50.2.2.1 54 (by decide) (by decide)).1, by decide, fun m51 e => ?_⟩
  have B51 := zB_wr B50 e (by decide) (by rw [x_h48]; decide +kernel)
  clear e
  refine ⟨by decide, by decide, fun m52 h52 e f => ?_⟩
  have B52 : zB N xs 80 _ m52 h52 := zB_al B51 e f (by decide) (by decide) (by decide +kernel)
  clear e f
  have x_h52 : nx h52 = 81 := B52.1
  refine ⟨(B52.2.2.1 54 (by decide) (by decide)).1, by decide, fun m53 e => ?_⟩
  have B53 := zB_wr B52 e (by decide) (by rw [x_h50]; decide +kernel)
  clear e
  refine ⟨(B53.2.2.1 54 (by decide) (by decide)).1, by decide, fun m54 e => ?_⟩
  have B54 := zB_wr B53 e (by decide) (by decide +kernel)
  clear e
  refine ⟨by decide, by decide, fun m55 h55 e f => ?_⟩
  have B55 : zB N xs 81 _ m55 h55 := zB_al B54 e f (by decide) (by decide) (by decide +kernel)
  clear e f
  have x_h55 : nx h55 = 82 := B55.1
  refine ⟨(B55.2.2.1 54 (by decide) (by decide)).1, by decide, fun m56 e => ?_⟩
  have B56 := zB_wr B55 e (by decide) (by rw [x_h52]; decide +kernel)
  clear e
  refine ⟨by decide, by decide, fun m57 h57 e f => ?_⟩
  have B57 : zB N xs 82 _ m57 h57 := zB_al B56 e f (by decide) (by decide) (by decide +kernel)
  clear e f
  have x_h57 : nx h57 = 83 := B57.1
  refine ⟨(B57.2.2.1 54 (by decide) (by decide)).1, by decide, fun m58 e => ?_⟩
  have B58 := zB_wr B57 e (by decide) (by rw [x_h55]; decide +kernel)
  clear e
  refine ⟨by decide, by decide, fun m59 h59 e f => ?_⟩
  have B59 : zB N xs 83 _ m59 h59 := zB_al B58 e f (by decide) (by decide) (by decide +kernel)
  clear e f
  have x_h59 : nx h59 = 84 := B59.1
  refine ⟨(B59.2.2.1 54 (by decide) (by decide)).1, by decide, fun m60 e => ?_⟩
  have B60 := zB_wr B59 e (by decide) (by rw [x_h57]; decide +kernel)
  clear e
  refine ⟨by decide, by decide, fun m61 h61 e f => ?_⟩
  have B61 : zB N xs 84 _ m61 h61 := zB_al B60 e f (by decide) (by decide) (by decide +kernel)
  clear e f
  have x_h61 : nx h61 = 85 := B61.1
  refine ⟨(B61.2.2.1 54 (by decide) (by decide)).1, by decide, fun m62 e => ?_⟩
  have B62 := zB_wr B61 e (by decide) (by rw [x_h59]; decide +kernel)
  clear e
  refine ⟨by decide, by decide, fun m63 h63 e f => ?_⟩
  have B63 : zB N xs 85 _ m63 h63 := zB_al B62 e f (by decide) (by decide) (by decide +kernel)
  clear e f
  have x_h63 : nx h63 = 86 := B63.1
  refine ⟨(B63.2.2.1 54 (by decide) (by decide)).1, by decide, fun m64 e => ?_⟩
  have B64 := zB_wr B63 e (by decide) (by rw [x_h61]; decide +kernel)
  clear e
  refine ⟨by decide, by decide, fun m65 h65 e f => ?_⟩
  have B65 : zB N xs 86 _ m65 h65 := zB_al B64 e f (by decide) (by decide) (by decide +kernel)
  clear e f
  have x_h65 : nx h65 = 87 := B65.1
  refine ⟨(B65.2.2.1 54 (by decide) (by decide)).1, by decide, fun m66 e => ?_⟩
  have B66 := zB_wr B65 e (by decide) (by rw [x_h63]; decide +kernel)
  clear e
  refine ⟨by decide, by decide, fun m67 h67 e f => ?_⟩
  have B67 : zB N xs 87 _ m67 h67 := zB_al B66 e f (by decide) (by decide) (by decide +kernel)
  clear e f
  have x_h67 : nx h67 = 88 := B67.1
  refine ⟨(B67.2.2.1 54 (by decide) (by decide)).1, by decide, fun m68 e => ?_⟩
  have B68 := zB_wr B67 e (by decide) (by rw [x_h65]; decide +kernel)
  clear e
  refine ⟨by decide, by decide, fun m69 h69 e f => ?_⟩
  have B69 : zB N xs 88 _ m69 h69 := zB_al B68 e f (by decide) (by decide) (by decide +kernel)
  clear e f
  have x_h69 : nx h69 = 89 := B69.1
  refine ⟨(B69.2.2.1 54 (by decide) (by decide)).1, by decide, fun m70 e => ?_⟩
  have B70 := zB_wr B69 e (by decide) (by rw [x_h67]; decide +kernel)
  clear e
  refine ⟨by decide, by decide, fun m71 h71 e f => ?_⟩
  have B71 : zB N xs 89 _ m71 h71 := zB_al B70 e f (by decide) (by decide) (by decide +kernel)
  clear e f
  have x_h71 : nx h71 = 90 := B71.1
  refine ⟨(B71.2.2.1 54 (by decide) (by decide)).1, by decide, fun m72 e => ?_⟩
  have B72 := zB_wr B71 e (by decide) (by rw [x_h69]; decide +kernel)
  clear e
  refine ⟨by decide, by decide, fun m73 h73 e f => ?_⟩
  have B73 : zB N xs 90 _ m73 h73 := zB_al B72 e f (by decide) (by decide) (by decide +kernel)
  clear e f
  have x_h73 : nx h73 = 91 := B73.1
  refine ⟨(B73.2.2.1 54 (by decide) (by decide)).1, by decide, fun m74 e => ?_⟩
  have B74 := zB_wr B73 e (by decide) (by rw [x_h71]; decide +kernel)
  clear e
  refine ⟨by decide, by decide, fun m75 h75 e f => ?_⟩
  have B75 : zB N xs 91 _ m75 h75 := zB_al B74 e f (by decide) (by decide) (by decide +kernel)
  clear e f
  have x_h75 : nx h75 = 92 := B75.1
  refine ⟨(B75.2.2.1 54 (by decide) (by decide)).1, by decide, fun m76 e => ?_⟩
  have B76 := zB_wr B75 e (by decide) (by rw [x_h73]; decide +kernel)
  clear e
  refine ⟨by decide, by decide, fun m77 h77 e f => ?_⟩
  have B77 : zB N xs 92 _ m77 h77 := zB_al B76 e f (by decide) (by decide) (by decide +kernel)
  clear e f
  have x_h77 : nx h77 = 93 := B77.1
  refine ⟨(B77.2.2.1 54 (by decide) (by decide)).1, by decide, fun m78 e => ?_⟩
  have B78 := zB_wr B77 e (by decide) (by rw [x_h75]; decide +kernel)
  clear e
  refine ⟨by decide, by decide, fun m79 h79 e f => ?_⟩
  have B79 : zB N xs 93 _ m79 h79 := zB_al B78 e f (by decide) (by decide) (by decide +kernel)
  clear e f
  have x_h79 : nx h79 = 94 := B79.1
  refine ⟨(B79.2.2.1 54 (by decide) (by decide)).1, by decide, fun m80 e => ?_⟩
  have B80 := zB_wr B79 e (by decide) (by rw [x_h77]; decide +kernel)
  clear e
  refine ⟨by decide, by decide, fun m81 h81 e f => ?_⟩
  have B81 : zB N xs 94 _ m81 h81 := zB_al B80 e f (by decide) (by decide) (by decide +kernel)
  clear e f
  have x_h81 : nx h81 = 95 := B81.1
  refine ⟨(B81.2.2.1 54 (by decide) (by decide)).1, by decide, fun m82 e => ?_⟩
  have B82 := zB_wr B81 e (by decide) (by rw [x_h79]; decide +kernel)
  clear e
  refine ⟨by decide, by decide, fun m83 h83 e f => ?_⟩
  have B83 : zB N xs 95 _ m83 h83 := zB_al B82 e f (by decide) (by decide) (by decide +kernel)
  clear e f
  have x_h83 : nx h83 = 96 := B83.1
  refine ⟨(B83.2.2.1 54 (by decide) (by decide)).1, by decide, fun m84 e => ?_⟩
  have B84 := zB_wr B83 e (by decide) (by rw [x_h81]; decide +kernel)
  clear e
  refine ⟨by decide, by decide, fun m85 h85 e f => ?_⟩
  have B85 : zB N xs 96 _ m85 h85 := zB_al B84 e f (by decide) (by decide) (by decide +kernel)
  clear e f
  have x_h85 : nx h85 = 97 := B85.1
  refine ⟨(B85.2.2.1 54 (by decide) (by decide)).1, by decide, fun m86 e => ?_⟩
  have B86 := zB_wr B85 e (by decide) (by rw [x_h83]; decide +kernel)
  clear e
  refine ⟨by decide, by decide, fun m87 h87 e f => ?_⟩
  have B87 : zB N xs 97 _ m87 h87 := zB_al B86 e f (by decide) (by decide) (by decide +kernel)
  clear e f
  have x_h87 : nx h87 = 98 := B87.1
  refine ⟨(B87.2.2.1 54 (by decide) (by decide)).1, by decide, fun m88 e => ?_⟩
  have B88 := zB_wr B87 e (by decide) (by rw [x_h85]; decide +kernel)
  clear e
  refine ⟨by decide, by decide, fun m89 h89 e f => ?_⟩
  have B89 : zB N xs 98 _ m89 h89 := zB_al B88 e f (by decide) (by decide) (by decide +kernel)
  clear e f
  have x_h89 : nx h89 = 99 := B89.1
  refine ⟨(B89.2.2.1 54 (by decide) (by decide)).1, by decide, fun m90 e => ?_⟩
  have B90 := zB_wr B89 e (by decide) (by rw [x_h87]; decide +kernel)
  clear e
  refine ⟨(B90.2.2.1 54 (by decide) (by decide)).1, by decide, fun m91 e => ?_⟩
  have B91 := zB_wr B90 e (by decide) (by decide +kernel)
  clear e
  refine ⟨by decide, by decide, fun m92 h92 e f => ?_⟩
  have B92 : zB N xs 99 _ m92 h92 := zB_al B91 e f (by decide) (by decide) (by decide +kernel)
  clear e f
  have x_h92 : nx h92 = 100 := B92.1
  refine ⟨(B92.2.2.1 54 (by decide) (by decide)).1, by decide, fun m93 e => ?_⟩
  have B93 := zB_wr B92 e (by decide) (by rw [x_h89]; decide +kernel)
  clear e
  refine ⟨by decide, by decide, fun m94 h94 e f => ?_⟩
  have B94 : zB N xs 100 _ m94 h94 := zB_al B93 e f (by decide) (by decide) (by decide +kernel)
  clear e f
  have x_h94 : nx h94 = 101 := B94.1
  refine ⟨(B94.2.2.1 54 (by decide) (by decide)).1, by decide, fun m95 e => ?_⟩
  have B95 := zB_wr B94 e (by decide) (by rw [x_h92]; decide +kernel)
  clear e
  refine ⟨by decide, by decide, fun m96 h96 e f => ?_⟩
  have B96 : zB N xs 101 _ m96 h96 := zB_al B95 e f (by decide) (by decide) (by decide +kernel)
  clear e f
  have x_h96 : nx h96 = 102 := B96.1
  refine ⟨(B96.2.2.1 54 (by decide) (by decide)).1, by decide, fun m97 e => ?_⟩
  have B97 := zB_wr B96 e (by decide) (by rw [x_h94]; decide +kernel)
  clear e
  refine ⟨by decide, by decide, fun m98 h98 e f => ?_⟩
  have B98 : zB N xs 102 _ m98 h98 := zB_al B97 e f (by decide) (by decide) (by decide +kernel)
  clear e f
  have x_h98 : nx h98 = 103 := B98.1
  refine ⟨(B98.2.2.1 54 (by decide) (by decide)).1, by decide, fun m99 e => ?_⟩
  have B99 := zB_wr B98 e (by decide) (by rw [x_h96]; decide +kernel)
  clear e
  refine ⟨by decide, by decide, fun m100 h100 e f => ?_⟩
  have B100 : zB N xs 103 _ m100 h100 := zB_al B99 e f (by decide) (by decide) (by decide +kernel)
  clear e f
  have x_h100 : nx h100 = 104 := B100.1
  refine ⟨(B100.2.2.1 54 (by decide) (by decide)).1, by decide, fun m101 e => ?_⟩
  have B101 := zB_wr B100 e (by decide) (by rw [x_h98]; decide +kernel)
  clear e
  refine ⟨by decide, by decide, fun m102 h102 e f => ?_⟩
  have B102 : zB N xs 104 _ m102 h102 := zB_al B101 e f (by decide) (by decide) (by decide +kernel)
  clear e f
  have x_h102 : nx h102 = 105 := B102.1
  refine ⟨(B102.2.2.1 54 (by decide) (by decide)).1, by decide, fun m103 e => ?_⟩
  have B103 := zB_wr B102 e (by decide) (by rw [x_h100]; decide +kernel)
  clear e
  refine ⟨by decide, by decide, fun m104 h104 e f => ?_⟩
  have B104 : zB N xs 105 _ m104 h104 := zB_al B103 e f (by decide) (by decide) (by decide +kernel)
  clear e f
  have x_h104 : nx h104 = 106 := B104.1
  refine ⟨(B104.2.2.1 54 (by decide) (by decide)).1, by decide, fun m105 e => ?_⟩
  have B105 := zB_wr B104 e (by decide) (by rw [x_h102]; decide +kernel)
  clear e
  refine ⟨by decide, by decide, fun m106 h106 e f => ?_⟩
  have B106 : zB N xs 106 _ m106 h106 := zB_al B105 e f (by decide) (by decide) (by decide +kernel)
  clear e f
  have x_h106 : nx h106 = 107 := B106.1
  refine ⟨(B106.2.2.1 54 (by decide) (by decide)).1, by decide, fun m107 e => ?_⟩
  have B107 := zB_wr B106 e (by decide) (by rw [x_h104]; decide +kernel)
  clear e
  refine ⟨by decide, by decide, fun m108 h108 e f => ?_⟩
  have B108 : zB N xs 107 _ m108 h108 := zB_al B107 e f (by decide) (by decide) (by decide +kernel)
  clear e f
  have x_h108 : nx h108 = 108 := B108.1
  refine ⟨(B108.2.2.1 54 (by decide) (by decide)).1, by decide, fun m109 e => ?_⟩
  have B109 := zB_wr B108 e (by decide) (by rw [x_h106]; decide +kernel)
  clear e
  refine ⟨by decide, by decide, fun m110 h110 e f => ?_⟩
  have B110 : zB N xs 108 _ m110 h110 := zB_al B109 e f (by decide) (by decide) (by decide +kernel)
  clear e f
  have x_h110 : nx h110 = 109 := B110.1
  refine ⟨(B110.2.2.1 54 (by decide) (by decide)).1, by decide, fun m111 e => ?_⟩
  have B111 := zB_wr B110 e (by decide) (by rw [x_h108]; decide +kernel)
  clear e
  refine ⟨by decide, by decide, fun m112 h112 e f => ?_⟩
  have B112 : zB N xs 109 _ m112 h112 := zB_al B111 e f (by decide) (by decide) (by decide +kernel)
  clear e f
  have x_h112 : nx h112 = 110 := B112.1
  refine ⟨(B112.2.2.1 54 (by decide) (by decide)).1, by decide, fun m113 e => ?_⟩
  have B113 := zB_wr B112 e (by decide) (by rw [x_h110]; decide +kernel)
  clear e
  refine ⟨by decide, by decide, fun m114 h114 e f => ?_⟩
  have B114 : zB N xs 110 _ m114 h114 := zB_al B113 e f (by decide) (by decide) (by decide +kernel)
  clear e f
  have x_h114 : nx h114 = 111 := B114.1
  refine ⟨(B114.2.2.1 54 (by decide) (by decide)).1, by decide, fun m115 e => ?_⟩
  have B115 := zB_wr B114 e (by decide) (by rw [x_h112]; decide +kernel)
  clear e
  refine ⟨by decide, by decide, fun m116 h116 e f => ?_⟩
  have B116 : zB N xs 111 _ m116 h116 := zB_al B115 e f (by decide) (by decide) (by decide +kernel)
  clear e f
  have x_h116 : nx h116 = 112 := B116.1
  refine ⟨(B116.2.2.1 54 (by decide) (by decide)).1, by decide, fun m117 e => ?_⟩
  have B117 := zB_wr B116 e (by decide) (by rw [x_h114]; decide +kernel)
  clear e
  refine ⟨by decide, by decide, fun m118 h118 e f => ?_⟩
  have B118 : zB N xs 112 _ m118 h118 := zB_al B117 e f (by decide) (by decide) (by decide +kernel)
  clear e f
  have x_h118 : nx h118 = 113 := B118.1
  refine ⟨(B118.2.2.1 54 (by decide) (by decide)).1, by decide, fun m119 e => ?_⟩
  have B119 := zB_wr B118 e (by decide) (by rw [x_h116]; decide +kernel)
  clear e
  refine ⟨by decide, by decide, fun m120 h120 e f => ?_⟩
  have B120 : zB N xs 113 _ m120 h120 := zB_al B119 e f (by decide) (by decide) (by decide +kernel)
  clear e f
  have x_h120 : nx h120 = 114 := B120.1
  refine ⟨(B120.2.2.1 54 (by decide) (by decide)).1, by decide, fun m121 e => ?_⟩
  have B121 := zB_wr B120 e (by decide) (by rw [x_h118]; decide +kernel)
  clear e
  refine ⟨by decide, by decide, fun m122 h122 e f => ?_⟩
  have B122 : zB N xs 114 _ m122 h122 := zB_al B121 e f (by decide) (by decide) (by decide +kernel)
  clear e f
  have x_h122 : nx h122 = 115 := B122.1
  refine ⟨(B122.2.2.1 54 (by decide) (by decide)).1, by decide, fun m123 e => ?_⟩
  have B123 := zB_wr B122 e (by decide) (by rw [x_h120]; decide +kernel)
  clear e
  refine ⟨by decide, by decide, fun m124 h124 e f => ?_⟩
  have B124 : zB N xs 115 _ m124 h124 := zB_al B123 e f (by decide) (by decide) (by decide +kernel)
  clear e f
  have x_h124 : nx h124 = 116 := B124.1
  refine ⟨(B124.2.2.1 54 (by decide) (by decide)).1, by decide, fun m125 e => ?_⟩
  have B125 := zB_wr B124 e (by decide) (by rw [x_h122]; decide +kernel)
  clear e
  refine ⟨by decide, by decide, fun m126 h126 e f => ?_⟩
  have B126 : zB N xs 116 _ m126 h126 := zB_al B125 e f (by decide) (by decide) (by decide +kernel)
  clear e f
  have x_h126 : nx h126 = 117 := B126.1
  refine ⟨(B126.2.2.1 54 (by decide) (by decide)).1, by decide, fun m127 e => ?_⟩
  have B127 := zB_wr B126 e (by decide) (by rw [x_h124]; decide +kernel)
  clear e
  refine ⟨by decide, by decide, fun m128 h128 e f => ?_⟩
  have B128 : zB N xs 117 _ m128 h128 := zB_al B127 e f (by decide) (by decide) (by decide +kernel)
  clear e f
  have x_h128 : nx h128 = 118 := B128.1
  refine ⟨(B128.2.2.1 54 (by decide) (by decide)).1, by decide, fun m129 e => ?_⟩
  have B129 := zB_wr B128 e (by decide) (by rw [x_h126]; decide +kernel)
  clear e
  refine ⟨by decide, by decide, fun m130 h130 e f => ?_⟩
  have B130 : zB N xs 118 _ m130 h130 := zB_al B129 e f (by decide) (by decide) (by decide +kernel)
  clear e f
  have x_h130 : nx h130 = 119 := B130.1
  refine ⟨(B130.2.2.1 54 (by decide) (by decide)).1, by decide, fun m131 e => ?_⟩
  have B131 := zB_wr B130 e (by decide) (by rw [x_h128]; decide +kernel)
  clear e
  refine ⟨by decide, by decide, fun m132 h132 e f => ?_⟩
  have B132 : zB N xs 119 _ m132 h132 := zB_al B131 e f (by decide) (by decide) (by decide +kernel)
  clear e f
  have x_h132 : nx h132 = 120 := B132.1
  refine ⟨(B132.2.2.1 54 (by decide) (by decide)).1, by decide, fun m133 e => ?_⟩
  have B133 := zB_wr B132 e (by decide) (by rw [x_h130]; decide +kernel)
  clear e
  refine ⟨by decide, by decide, fun m134 h134 e f => ?_⟩
  have B134 : zB N xs 120 _ m134 h134 := zB_al B133 e f (by decide) (by decide) (by decide +kernel)
  clear e f
  have x_h134 : nx h134 = 121 := B134.1
  refine ⟨(B134.2.2.1 54 (by decide) (by decide)).1, by decide, fun m135 e => ?_⟩
  have B135 := zB_wr B134 e (by decide) (by rw [x_h132]; decide +kernel)
  clear e
  refine ⟨by decide, by decide, fun m136 h136 e f => ?_⟩
  have B136 : zB N xs 121 _ m136 h136 := zB_al B135 e f (by decide) (by decide) (by decide +kernel)
  clear e f
  have x_h136 : nx h136 = 122 := B136.1
  refine ⟨(B136.2.2.1 54 (by decide) (by decide)).1, by decide, fun m137 e => ?_⟩
  have B137 := zB_wr B136 e (by decide) (by rw [x_h134]; decide +kernel)
  clear e
  refine ⟨by decide, by decide, fun m138 h138 e f => ?_⟩
  have B138 : zB N xs 122 _ m138 h138 := zB_al B137 e f (by decide) (by decide) (by decide +kernel)
  clear e f
  have x_h138 : nx h138 = 123 := B138.1
  refine ⟨(B138.2.2.1 54 (by decide) (by decide)).1, by decide, fun m139 e => ?_⟩
  have B139 := zB_wr B138 e (by decide) (by rw [x_h136]; decide +kernel)
  clear e
  refine ⟨by decide, by decide, fun m140 h140 e f => ?_⟩
  have B140 : zB N xs 123 _ m140 h140 := zB_al B139 e f (by decide) (by decide) (by decide +kernel)
  clear e f
  have x_h140 : nx h140 = 124 := B140.1
  refine ⟨(B140.2.2.1 54 (by decide) (by decide)).1, by decide, fun m141 e => ?_⟩
  have B141 := zB_wr B140 e (by decide) (by rw [x_h138]; decide +kernel)
  clear e
  refine ⟨by decide, by decide, fun m142 h142 e f => ?_⟩
  have B142 : zB N xs 124 _ m142 h142 := zB_al B141 e f (by decide) (by decide) (by decide +kernel)
  clear e f
  have x_h142 : nx h142 = 125 := B142.1
  refine ⟨(B142.2.2.1 54 (by decide) (by decide)).1, by decide, fun m143 e => ?_⟩
  have B143 := zB_wr B142 e (by decide) (by rw [x_h140]; decide +kernel)
  clear e
  refine ⟨by decide, by decide, fun m144 h144 e f => ?_⟩
  have B144 : zB N xs 125 _ m144 h144 := zB_al B143 e f (by decide) (by decide) (by decide +kernel)
  clear e f
  have x_h144 : nx h144 = 126 := B144.1
  refine ⟨(B144.2.2.1 54 (by decide) (by decide)).1, by decide, fun m145 e => ?_⟩
  have B145 := zB_wr B144 e (by decide) (by rw [x_h142]; decide +kernel)
  clear e
  refine ⟨by decide, by decide, fun m146 h146 e f => ?_⟩
  have B146 : zB N xs 126 _ m146 h146 := zB_al B145 e f (by decide) (by decide) (by decide +kernel)
  clear e f
  have x_h146 : nx h146 = 127 := B146.1
  refine ⟨(B146.2.2.1 54 (by decide) (by decide)).1, by decide, fun m147 e => ?_⟩
  have B147 := zB_wr B146 e (by decide) (by rw [x_h144]; decide +kernel)
  clear e
  refine ⟨by decide, by decide, fun m148 h148 e f => ?_⟩
  have B148 : zB N xs 127 _ m148 h148 := zB_al B147 e f (by decide) (by decide) (by decide +kernel)
  clear e f
  have x_h148 : nx h148 = 128 := B148.1
  refine ⟨(B148.2.2.1 54 (by decide) (by decide)).1, by decide, fun m149 e => ?_⟩
  have B149 := zB_wr B148 e (by decide) (by rw [x_h146]; decide +kernel)
  clear e
  refine ⟨by decide, by decide, fun m150 h150 e f => ?_⟩
  have B150 : zB N xs 128 _ m150 h150 := zB_al B149 e f (by decide) (by decide) (by decide +kernel)
  clear e f
  have x_h150 : nx h150 = 129 := B150.1
  refine ⟨(B150.2.2.1 54 (by decide) (by decide)).1, by decide, fun m151 e => ?_⟩
  have B151 := zB_wr B150 e (by decide) (by rw [x_h148]; decide +kernel)
  clear e
  refine ⟨by decide, by decide, fun m152 h152 e f => ?_⟩
  have B152 : zB N xs 129 _ m152 h152 := zB_al B151 e f (by decide) (by decide) (by decide +kernel)
  clear e f
  have x_h152 : nx h152 = 130 := B152.1
  refine ⟨(B152.2.2.1 54 (by decide) (by decide)).1, by decide, fun m153 e => ?_⟩
  have B153 := zB_wr B152 e (by decide) (by rw [x_h150]; decide +kernel)
  clear e
  refine ⟨by decide, by decide, fun m154 h154 e f => ?_⟩
  have B154 : zB N xs 130 _ m154 h154 := zB_al B153 e f (by decide) (by decide) (by decide +kernel)
  clear e f
  have x_h154 : nx h154 = 131 := B154.1
  refine ⟨(B154.2.2.1 54 (by decide) (by decide)).1, by decide, fun m155 e => ?_⟩
  have B155 := zB_wr B154 e (by decide) (by rw [x_h152]; decide +kernel)
  clear e
  refine ⟨by decide, by decide, fun m156 h156 e f => ?_⟩
  have B156 : zB N xs 131 _ m156 h156 := zB_al B155 e f (by decide) (by decide) (by decide +kernel)
  clear e f
  have x_h156 : nx h156 = 132 := B156.1
  refine ⟨(B156.2.2.1 54 (by decide) (by decide)).1, by decide, fun m157 e => ?_⟩
  have B157 := zB_wr B156 e (by decide) (by rw [x_h154]; decide +kernel)
  clear e
  refine ⟨by decide, by decide, fun m158 h158 e f => ?_⟩
  have B158 : zB N xs 132 _ m158 h158 := zB_al B157 e f (by decide) (by decide) (by decide +kernel)
  clear e f
  have x_h158 : nx h158 = 133 := B158.1
  refine ⟨(B158.2.2.1 54 (by decide) (by decide)).1, by decide, fun m159 e => ?_⟩
  have B159 := zB_wr B158 e (by decide) (by rw [x_h156]; decide +kernel)
  clear e
  refine ⟨by decide, by decide, fun m160 h160 e f => ?_⟩
  have B160 : zB N xs 133 _ m160 h160 := zB_al B159 e f (by decide) (by decide) (by decide +kernel)
  clear e f
  have x_h160 : nx h160 = 134 := B160.1
  refine ⟨(B160.2.2.1 54 (by decide) (by decide)).1, by decide, fun m161 e => ?_⟩
  have B161 := zB_wr B160 e (by decide) (by rw [x_h158]; decide +kernel)
  clear e
  refine ⟨by decide, by decide, fun m162 h162 e f => ?_⟩
  have B162 : zB N xs 134 _ m162 h162 := zB_al B161 e f (by decide) (by decide) (by decide +kernel)
  clear e f
  have x_h162 : nx h162 = 135 := B162.1
  refine ⟨(B162.2.2.1 54 (by decide) (by decide)).1, by decide, fun m163 e => ?_⟩
  have B163 := zB_wr B162 e (by decide) (by rw [x_h160]; decide +kernel)
  clear e
  refine ⟨by decide, by decide, fun m164 h164 e f => ?_⟩
  have B164 : zB N xs 135 _ m164 h164 := zB_al B163 e f (by decide) (by decide) (by decide +kernel)
  clear e f
  have x_h164 : nx h164 = 136 := B164.1
  refine ⟨(B164.2.2.1 54 (by decide) (by decide)).1, by decide, fun m165 e => ?_⟩
  have B165 := zB_wr B164 e (by decide) (by rw [x_h162]; decide +kernel)
  clear e
  refine ⟨by decide, by decide, fun m166 h166 e f => ?_⟩
  have B166 : zB N xs 136 _ m166 h166 := zB_al B165 e f (by decide) (by decide) (by decide +kernel)
  clear e f
  have x_h166 : nx h166 = 137 := B166.1
  refine ⟨(B166.2.2.1 54 (by decide) (by decide)).1, by decide, fun m167 e => ?_⟩
  have B167 := zB_wr B166 e (by decide) (by rw [x_h164]; decide +kernel)
  clear e
  refine ⟨by decide, by decide, fun m168 h168 e f => ?_⟩
  have B168 : zB N xs 137 _ m168 h168 := zB_al B167 e f (by decide) (by decide) (by decide +kernel)
  clear e f
  have x_h168 : nx h168 = 138 := B168.1
  refine ⟨(B168.2.2.1 54 (by decide) (by decide)).1, by decide, fun m169 e => ?_⟩
  have B169 := zB_wr B168 e (by decide) (by rw [x_h166]; decide +kernel)
  clear e
  refine ⟨by decide, by decide, fun m170 h170 e f => ?_⟩
  have B170 : zB N xs 138 _ m170 h170 := zB_al B169 e f (by decide) (by decide) (by decide +kernel)
  clear e f
  have x_h170 : nx h170 = 139 := B170.1
  refine ⟨(B170.2.2.1 54 (by decide) (by decide)).1, by decide, fun m171 e => ?_⟩
  have B171 := zB_wr B170 e (by decide) (by rw [x_h168]; decide +kernel)
  clear e
  refine ⟨by decide, by decide, fun m172 h172 e f => ?_⟩
  have B172 : zB N xs 139 _ m172 h172 := zB_al B171 e f (by decide) (by decide) (by decide +kernel)
  clear e f
  have x_h172 : nx h172 = 140 := B172.1
  refine ⟨(B172.2.2.1 54 (by decide) (by decide)).1, by decide, fun m173 e => ?_⟩
  have B173 := zB_wr B172 e (by decide) (by rw [x_h170]; decide +kernel)
  clear e
  refine ⟨by decide, by decide, fun m174 h174 e f => ?_⟩
  have B174 : zB N xs 140 _ m174 h174 := zB_al B173 e f (by decide) (by decide) (by decide +kernel)
  clear e f
  have x_h174 : nx h174 = 141 := B174.1
  refine ⟨(B174.2.2.1 54 (by decide) (by decide)).1, by decide, fun m175 e => ?_⟩
  have B175 := zB_wr B174 e (by decide) (by rw [x_h172]; decide +kernel)
  clear e
  refine ⟨by decide, by decide, fun m176 h176 e f => ?_⟩
  have B176 : zB N xs 141 _ m176 h176 := zB_al B175 e f (by decide) (by decide) (by decide +kernel)
  clear e f
  have x_h176 : nx h176 = 142 := B176.1
  refine ⟨(B176.2.2.1 54 (by decide) (by decide)).1, by decide, fun m177 e => ?_⟩
  have B177 := zB_wr B176 e (by decide) (by rw [x_h174]; decide +kernel)
  clear e
  refine ⟨by decide, by decide, fun m178 h178 e f => ?_⟩
  have B178 : zB N xs 142 _ m178 h178 := zB_al B177 e f (by decide) (by decide) (by decide +kernel)
  clear e f
  have x_h178 : nx h178 = 143 := B178.1
  refine ⟨(B178.2.2.1 54 (by decide) (by decide)).1, by decide, fun m179 e => ?_⟩
  have B179 := zB_wr B178 e (by decide) (by rw [x_h176]; decide +kernel)
  clear e
  refine ⟨(B179.2.2.1 54 (by decide) (by decide)).1, c_Mo_word ?_⟩
  rw [show m179 54 9 = 61 from (zB_rd B179 (by decide) (by decide) (by decide) (by decide +kernel)).trans (by decide +kernel)]
  refine ⟨(B179.2.2.1 61 (by decide) (by decide)).1, by decide, by decide, by rw [show ln h178 61 = 23 from (B179.2.2.1 61 (by decide) (by decide)).2]; decide, fun m181 e => ?_⟩
  have B180 := zB_wr B179 e (by decide) (by decide +kernel)
  clear e
  refine ⟨(B180.2.2.1 54 (by decide) (by decide)).1, c_Mo_word ?_⟩
  rw [show m181 54 9 = 61 from (zB_rd B180 (by decide) (by decide) (by decide) (by decide +kernel)).trans (by decide +kernel)]
  refine ⟨(B180.2.2.1 61 (by decide) (by decide)).1, by decide, by decide, by rw [show ln h178 61 = 23 from (B180.2.2.1 61 (by decide) (by decide)).2]; decide, fun m183 e => ?_⟩
  have B181 := zB_wr B180 e (by decide) (by decide +kernel)
  clear e
  refine ⟨(B181.2.2.1 54 (by decide) (by decide)).1, c_Mo_word ?_⟩
  rw [show m183 54 9 = 61 from (zB_rd B181 (by decide) (by decide) (by decide) (by decide +kernel)).trans (by decide +kernel)]
  refine ⟨(B181.2.2.1 61 (by decide) (by decide)).1, by decide, by decide, by rw [show ln h178 61 = 23 from (B181.2.2.1 61 (by decide) (by decide)).2]; decide, fun m185 e => ?_⟩
  have B182 := zB_wr B181 e (by decide) (by decide +kernel)
  clear e
  refine ⟨(B182.2.2.1 54 (by decide) (by decide)).1, c_Mo_word ?_⟩
  rw [show m185 54 9 = 61 from (zB_rd B182 (by decide) (by decide) (by decide) (by decide +kernel)).trans (by decide +kernel)]
  refine ⟨(B182.2.2.1 61 (by decide) (by decide)).1, by decide, by decide, by rw [show ln h178 61 = 23 from (B182.2.2.1 61 (by decide) (by decide)).2]; decide, fun m187 e => ?_⟩
  have B183 := zB_wr B182 e (by decide) (by decide +kernel)
  clear e
  refine ⟨(B183.2.2.1 54 (by decide) (by decide)).1, c_Mo_word ?_⟩
  rw [show m187 54 9 = 61 from (zB_rd B183 (by decide) (by decide) (by decide) (by decide +kernel)).trans (by decide +kernel)]
  refine ⟨(B183.2.2.1 61 (by decide) (by decide)).1, by decide, by decide, by rw [show ln h178 61 = 23 from (B183.2.2.1 61 (by decide) (by decide)).2]; decide, fun m189 e => ?_⟩
  have B184 := zB_wr B183 e (by decide) (by decide +kernel)
  clear e
  refine ⟨(B184.2.2.1 54 (by decide) (by decide)).1, c_Mo_word ?_⟩
  rw [show m189 54 9 = 61 from (zB_rd B184 (by decide) (by decide) (by decide) (by decide +kernel)).trans (by decide +kernel)]
  refine ⟨(B184.2.2.1 61 (by decide) (by decide)).1, by decide, by decide, by rw [show ln h178 61 = 23 from (B184.2.2.1 61 (by decide) (by decide)).2]; decide, fun m191 e => ?_⟩
  have B185 := zB_wr B184 e (by decide) (by decide +kernel)
  clear e
  refine ⟨(B185.2.2.1 54 (by decide) (by decide)).1, c_Mo_word ?_⟩
  rw [show m191 54 9 = 61 from (zB_rd B185 (by decide) (by decide) (by decide) (by decide +kernel)).trans (by decide +kernel)]
  refine ⟨(B185.2.2.1 61 (by decide) (by decide)).1, by decide, by decide, by rw [show ln h178 61 = 23 from (B185.2.2.1 61 (by decide) (by decide)).2]; decide, fun m193 e => ?_⟩
  have B186 := zB_wr B185 e (by decide) (by decide +kernel)
  clear e
  refine ⟨(B186.2.2.1 54 (by decide) (by decide)).1, c_Mo_word ?_⟩
  rw [show m193 54 9 = 61 from (zB_rd B186 (by decide) (by decide) (by decide) (by decide +kernel)).trans (by decide +kernel)]
  refine ⟨(B186.2.2.1 61 (by decide) (by decide)).1, by decide, by decide, by rw [show ln h178 61 = 23 from (B186.2.2.1 61 (by decide) (by decide)).2]; decide, fun m195 e => ?_⟩
  have B187 := zB_wr B186 e (by decide) (by decide +kernel)
  clear e
  refine ⟨(B187.2.2.1 54 (by decide) (by decide)).1, c_Mo_word ?_⟩
  rw [show m195 54 9 = 61 from (zB_rd B187 (by decide) (by decide) (by decide) (by decide +kernel)).trans (by decide +kernel)]
  refine ⟨(B187.2.2.1 61 (by decide) (by decide)).1, by decide, by decide, by rw [show ln h178 61 = 23 from (B187.2.2.1 61 (by decide) (by decide)).2]; decide, fun m197 e => ?_⟩
  have B188 := zB_wr B187 e (by decide) (by decide +kernel)
  clear e
  refine ⟨(B188.2.2.1 54 (by decide) (by decide)).1, c_Mo_word ?_⟩
  rw [show m197 54 9 = 61 from (zB_rd B188 (by decide) (by decide) (by decide) (by decide +kernel)).trans (by decide +kernel)]
  refine ⟨(B188.2.2.1 61 (by decide) (by decide)).1, by decide, by decide, by rw [show ln h178 61 = 23 from (B188.2.2.1 61 (by decide) (by decide)).2]; decide, fun m199 e => ?_⟩
  have B189 := zB_wr B188 e (by decide) (by decide +kernel)
  clear e
  refine ⟨(B189.2.2.1 54 (by decide) (by decide)).1, c_Mo_word ?_⟩
  rw [show m199 54 9 = 61 from (zB_rd B189 (by decide) (by decide) (by decide) (by decide +kernel)).trans (by decide +kernel)]
  refine ⟨(B189.2.2.1 61 (by decide) (by decide)).1, by decide, by decide, by rw [show ln h178 61 = 23 from (B189.2.2.1 61 (by decide) (by decide)).2]; decide, fun m201 e => ?_⟩
  have B190 := zB_wr B189 e (by decide) (by decide +kernel)
  clear e
  refine ⟨(B190.2.2.1 54 (by decide) (by decide)).1, c_Mo_word ?_⟩
  rw [show m201 54 9 = 61 from (zB_rd B190 (by decide) (by decide) (by decide) (by decide +kernel)).trans (by decide +kernel)]
  refine ⟨(B190.2.2.1 61 (by decide) (by decide)).1, by decide, by decide, by rw [show ln h178 61 = 23 from (B190.2.2.1 61 (by decide) (by decide)).2]; decide, fun m203 e => ?_⟩
  have B191 := zB_wr B190 e (by decide) (by decide +kernel)
  clear e
  refine ⟨(B191.2.2.1 54 (by decide) (by decide)).1, c_Mo_word ?_⟩
  rw [show m203 54 9 = 61 from (zB_rd B191 (by decide) (by decide) (by decide) (by decide +kernel)).trans (by decide +kernel)]
  refine ⟨(B191.2.2.1 61 (by decide) (by decide)).1, by decide, by decide, by rw [show ln h178 61 = 23 from (B191.2.2.1 61 (by decide) (by decide)).2]; decide, fun m205 e => ?_⟩
  have B192 := zB_wr B191 e (by decide) (by decide +kernel)
  clear e
  refine ⟨(B192.2.2.1 54 (by decide) (by decide)).1, c_Mo_word ?_⟩
  rw [show m205 54 9 = 61 from (zB_rd B192 (by decide) (by decide) (by decide) (by decide +kernel)).trans (by decide +kernel)]
  refine ⟨(B192.2.2.1 61 (by decide) (by decide)).1, by decide, by decide, by rw [show ln h178 61 = 23 from (B192.2.2.1 61 (by decide) (by decide)).2]; decide, fun m207 e => ?_⟩
  have B193 := zB_wr B192 e (by decide) (by decide +kernel)
  clear e
  refine ⟨(B193.2.2.1 54 (by decide) (by decide)).1, c_Mo_word ?_⟩
  rw [show m207 54 9 = 61 from (zB_rd B193 (by decide) (by decide) (by decide) (by decide +kernel)).trans (by decide +kernel)]
  refine ⟨(B193.2.2.1 61 (by decide) (by decide)).1, by decide, by decide, by rw [show ln h178 61 = 23 from (B193.2.2.1 61 (by decide) (by decide)).2]; decide, fun m209 e => ?_⟩
  have B194 := zB_wr B193 e (by decide) (by decide +kernel)
  clear e
  refine ⟨(B194.2.2.1 54 (by decide) (by decide)).1, c_Mo_word ?_⟩
  rw [show m209 54 9 = 61 from (zB_rd B194 (by decide) (by decide) (by decide) (by decide +kernel)).trans (by decide +kernel)]
  refine ⟨(B194.2.2.1 61 (by decide) (by decide)).1, by decide, by decide, by rw [show ln h178 61 = 23 from (B194.2.2.1 61 (by decide) (by decide)).2]; decide, fun m211 e => ?_⟩
  have B195 := zB_wr B194 e (by decide) (by decide +kernel)
  clear e
  refine ⟨(B195.2.2.1 54 (by decide) (by decide)).1, c_Mo_word ?_⟩
  rw [show m211 54 9 = 61 from (zB_rd B195 (by decide) (by decide) (by decide) (by decide +kernel)).trans (by decide +kernel)]
  refine ⟨(B195.2.2.1 61 (by decide) (by decide)).1, by decide, by decide, by rw [show ln h178 61 = 23 from (B195.2.2.1 61 (by decide) (by decide)).2]; decide, fun m213 e => ?_⟩
  have B196 := zB_wr B195 e (by decide) (by decide +kernel)
  clear e
  refine ⟨(B196.2.2.1 54 (by decide) (by decide)).1, c_Mo_word ?_⟩
  rw [show m213 54 9 = 61 from (zB_rd B196 (by decide) (by decide) (by decide) (by decide +kernel)).trans (by decide +kernel)]
  refine ⟨(B196.2.2.1 61 (by decide) (by decide)).1, by decide, by decide, by rw [show ln h178 61 = 23 from (B196.2.2.1 61 (by decide) (by decide)).2]; decide, fun m215 e => ?_⟩
  have B197 := zB_wr B196 e (by decide) (by decide +kernel)
  clear e
  refine ⟨(B197.2.2.1 54 (by decide) (by decide)).1, c_Mo_word ?_⟩
  rw [show m215 54 9 = 61 from (zB_rd B197 (by decide) (by decide) (by decide) (by decide +kernel)).trans (by decide +kernel)]
  refine ⟨(B197.2.2.1 61 (by decide) (by decide)).1, by decide, by decide, by rw [show ln h178 61 = 23 from (B197.2.2.1 61 (by decide) (by decide)).2]; decide, fun m217 e => ?_⟩
  have B198 := zB_wr B197 e (by decide) (by decide +kernel)
  clear e
  refine ⟨(B198.2.2.1 54 (by decide) (by decide)).1, c_Mo_word ?_⟩
  rw [show m217 54 9 = 61 from (zB_rd B198 (by decide) (by decide) (by decide) (by decide +kernel)).trans (by decide +kernel)]
  refine ⟨(B198.2.2.1 61 (by decide) (by decide)).1, by decide, by decide, by rw [show ln h178 61 = 23 from (B198.2.2.1 61 (by decide) (by decide)).2]; decide, fun m219 e => ?_⟩
  have B199 := zB_wr B198 e (by decide) (by decide +kernel)
  clear e
  refine ⟨(B199.2.2.1 54 (by decide) (by decide)).1, c_Mo_word ?_⟩
  rw [show m219 54 9 = 61 from (zB_rd B199 (by decide) (by decide) (by decide) (by decide +kernel)).trans (by decide +kernel)]
  refine ⟨(B199.2.2.1 61 (by decide) (by decide)).1, by decide, by decide, by rw [show ln h178 61 = 23 from (B199.2.2.1 61 (by decide) (by decide)).2]; decide, fun m221 e => ?_⟩
  have B200 := zB_wr B199 e (by decide) (by decide +kernel)
  clear e
  refine ⟨(B200.2.2.1 54 (by decide) (by decide)).1, c_Mo_word ?_⟩
  rw [show m221 54 9 = 61 from (zB_rd B200 (by decide) (by decide) (by decide) (by decide +kernel)).trans (by decide +kernel)]
  refine ⟨(B200.2.2.1 61 (by decide) (by decide)).1, by decide, by decide, by rw [show ln h178 61 = 23 from (B200.2.2.1 61 (by decide) (by decide)).2]; decide, fun m223 e => ?_⟩
  have B201 := zB_wr B200 e (by decide) (by decide +kernel)
  clear e
  refine ⟨(B201.2.2.1 54 (by decide) (by decide)).1, c_Mo_word ?_⟩
  rw [show m223 54 9 = 61 from (zB_rd B201 (by decide) (by decide) (by decide) (by decide +kernel)).trans (by decide +kernel)]
  refine ⟨(B201.2.2.1 61 (by decide) (by decide)).1, by decide, by decide, by rw [show ln h178 61 = 23 from (B201.2.2.1 61 (by decide) (by decide)).2]; decide, fun m225 e => ?_⟩
  have B202 := zB_wr B201 e (by decide) (by decide +kernel)
  clear e
  exact u_Mo_init B202 (by decide +kernel) (by decide +kernel) (by decide +kernel) (by decide +kernel) (by decide +kernel) fun m' B' => ⟨rfl, K _ _ B'⟩

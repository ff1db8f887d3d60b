def zm_Mo_init : Nat → Option (List Bool) := fun pc => bif Nat.beq pc 1243 then some [true, true] else (bif Nat.beq pc 1275 then some [true, true] else (bif Nat.beq pc 1296 then some [true, true] else (bif Nat.beq pc 1324 then some [true, true] else (none))))
abbrev q_Mo_init_0 (d : Nat) (a0 : Int) (m : zM) (h : zH) (Q : zQ) : Prop := WP d n_Mo_init 0 [some (.inr (.inr a0)), none] [] m h Q
abbrev q_Mo_init_1243 (d : Nat) (a0 a1 : Int) (m : zM) (h : zH) (Q : zQ) : Prop := WP d n_Mo_init 1243 [some (.inr (.inr a0)), some (.inl a1)] [] m h Q
abbrev q_Mo_init_1275 (d : Nat) (a0 a1 : Int) (m : zM) (h : zH) (Q : zQ) : Prop := WP d n_Mo_init 1275 [some (.inr (.inr a0)), some (.inl a1)] [] m h Q
abbrev q_Mo_init_1296 (d : Nat) (a0 a1 : Int) (m : zM) (h : zH) (Q : zQ) : Prop := WP d n_Mo_init 1296 [some (.inr (.inr a0)), some (.inl a1)] [] m h Q
abbrev q_Mo_init_1324 (d : Nat) (a0 a1 : Int) (m : zM) (h : zH) (Q : zQ) : Prop := WP d n_Mo_init 1324 [some (.inr (.inr a0)), some (.inl a1)] [] m h Q
set_option maxRecDepth 100000 in
set_option maxHeartbeats 8000000 in
theorem s_Mo_init_0 (d : Nat) (a0 : Int) (m : zM) (h : zH) (Q : zQ) (H :
  0 < a0 ∧ (0 : Int) ≤ 2000 ∧ 2000 ≤ (100000 : Int) ∧ ∀ m1 h1, m1 = znm m h → h1 = znh h 102 2000 2000 →
  kd h1 a0 = 13 ∧ 0 < a0 ∧ ∀ m2, m2 = zwr m1 a0 1 (nx h) →
  (0 : Int) ≤ 2000 ∧ 2000 ≤ (100000 : Int) ∧ ∀ m3 h3, m3 = znm m2 h1 → h3 = znh h1 102 2000 2000 →
  kd h3 a0 = 13 ∧ 0 < a0 ∧ ∀ m4, m4 = zwr m3 a0 3 (nx h1) →
  (0 : Int) ≤ 403 ∧ 403 ≤ (100000 : Int) ∧ ∀ m5 h5, m5 = znm m4 h3 → h5 = znh h3 101 403 403 →
  kd h5 a0 = 13 ∧ 0 < a0 ∧ ∀ m6, m6 = zwr m5 a0 5 (nx h3) →
  (0 : Int) ≤ 403 ∧ 403 ≤ (100000 : Int) ∧ ∀ m7 h7, m7 = znm m6 h5 → h7 = znh h5 101 403 403 →
  kd h7 a0 = 13 ∧ 0 < a0 ∧ ∀ m8, m8 = zwr m7 a0 6 (nx h5) →
  (0 : Int) ≤ 403 ∧ 403 ≤ (100000 : Int) ∧ ∀ m9 h9, m9 = znm m8 h7 → h9 = znh h7 101 403 403 →
  kd h9 a0 = 13 ∧ 0 < a0 ∧ ∀ m10, m10 = zwr m9 a0 7 (nx h7) →
  (0 : Int) ≤ 403 ∧ 403 ≤ (100000 : Int) ∧ ∀ m11 h11, m11 = znm m10 h9 → h11 = znh h9 104 403 403 →
  kd h11 a0 = 13 ∧ 0 < a0 ∧ ∀ m12, m12 = zwr m11 a0 8 (nx h9) →
  (0 : Int) ≤ 23 ∧ 23 ≤ (100000 : Int) ∧ ∀ m13 h13, m13 = znm m12 h11 → h13 = znh h11 104 23 23 →
  kd h13 a0 = 13 ∧ 0 < a0 ∧ ∀ m14, m14 = zwr m13 a0 9 (nx h11) →
  kd h13 a0 = 13 ∧ 0 < a0 ∧ ∀ m15, m15 = zwr m14 a0 17 ((-1)) →
  (0 : Int) ≤ 7 ∧ 7 ≤ (100000 : Int) ∧ ∀ m16 h16, m16 = znm m15 h13 → h16 = znh h13 101 7 7 →
  kd h16 a0 = 13 ∧ 0 < a0 ∧ ∀ m17, m17 = zwr m16 a0 19 (nx h13) →
  (0 : Int) ≤ 7 ∧ 7 ≤ (100000 : Int) ∧ ∀ m18 h18, m18 = znm m17 h16 → h18 = znh h16 101 7 7 →
  kd h18 a0 = 13 ∧ 0 < a0 ∧ ∀ m19, m19 = zwr m18 a0 20 (nx h16) →
  (0 : Int) ≤ 168 ∧ 168 ≤ (100000 : Int) ∧ ∀ m20 h20, m20 = znm m19 h18 → h20 = znh h18 101 168 168 →
  kd h20 a0 = 13 ∧ 0 < a0 ∧ ∀ m21, m21 = zwr m20 a0 21 (nx h18) →
  (0 : Int) ≤ 168 ∧ 168 ≤ (100000 : Int) ∧ ∀ m22 h22, m22 = znm m21 h20 → h22 = znh h20 104 168 168 →
  kd h22 a0 = 13 ∧ 0 < a0 ∧ ∀ m23, m23 = zwr m22 a0 22 (nx h20) →
  (0 : Int) ≤ 168 ∧ 168 ≤ (100000 : Int) ∧ ∀ m24 h24, m24 = znm m23 h22 → h24 = znh h22 101 168 168 →
  kd h24 a0 = 13 ∧ 0 < a0 ∧ ∀ m25, m25 = zwr m24 a0 23 (nx h22) →
  (0 : Int) ≤ 168 ∧ 168 ≤ (100000 : Int) ∧ ∀ m26 h26, m26 = znm m25 h24 → h26 = znh h24 101 168 168 →
  kd h26 a0 = 13 ∧ 0 < a0 ∧ ∀ m27, m27 = zwr m26 a0 24 (nx h24) →
  (0 : Int) ≤ 168 ∧ 168 ≤ (100000 : Int) ∧ ∀ m28 h28, m28 = znm m27 h26 → h28 = znh h26 101 168 168 →
  kd h28 a0 = 13 ∧ 0 < a0 ∧ ∀ m29, m29 = zwr m28 a0 25 (nx h26) →
  (0 : Int) ≤ 168 ∧ 168 ≤ (100000 : Int) ∧ ∀ m30 h30, m30 = znm m29 h28 → h30 = znh h28 101 168 168 →
  kd h30 a0 = 13 ∧ 0 < a0 ∧ ∀ m31, m31 = zwr m30 a0 26 (nx h28) →
  (0 : Int) ≤ 980 ∧ 980 ≤ (100000 : Int) ∧ ∀ m32 h32, m32 = znm m31 h30 → h32 = znh h30 101 980 980 →
  kd h32 a0 = 13 ∧ 0 < a0 ∧ ∀ m33, m33 = zwr m32 a0 28 (nx h30) →
  (0 : Int) ≤ 980 ∧ 980 ≤ (100000 : Int) ∧ ∀ m34 h34, m34 = znm m33 h32 → h34 = znh h32 103 980 980 →
  kd h34 a0 = 13 ∧ 0 < a0 ∧ ∀ m35, m35 = zwr m34 a0 29 (nx h32) →
  (0 : Int) ≤ 980 ∧ 980 ≤ (100000 : Int) ∧ ∀ m36 h36, m36 = znm m35 h34 → h36 = znh h34 103 980 980 →
  kd h36 a0 = 13 ∧ 0 < a0 ∧ ∀ m37, m37 = zwr m36 a0 30 (nx h34) →
  (0 : Int) ≤ 980 ∧ 980 ≤ (100000 : Int) ∧ ∀ m38 h38, m38 = znm m37 h36 → h38 = znh h36 101 980 980 →
  kd h38 a0 = 13 ∧ 0 < a0 ∧ ∀ m39, m39 = zwr m38 a0 31 (nx h36) →
  (0 : Int) ≤ 980 ∧ 980 ≤ (100000 : Int) ∧ ∀ m40 h40, m40 = znm m39 h38 → h40 = znh h38 101 980 980 →
  kd h40 a0 = 13 ∧ 0 < a0 ∧ ∀ m41, m41 = zwr m40 a0 32 (nx h38) →
  (0 : Int) ≤ 980 ∧ 980 ≤ (100000 : Int) ∧ ∀ m42 h42, m42 = znm m41 h40 → h42 = znh h40 101 980 980 →
  kd h42 a0 = 13 ∧ 0 < a0 ∧ ∀ m43, m43 = zwr m42 a0 33 (nx h40) →
  (0 : Int) ≤ 2800 ∧ 2800 ≤ (100000 : Int) ∧ ∀ m44 h44, m44 = znm m43 h42 → h44 = znh h42 101 2800 2800 →
  kd h44 a0 = 13 ∧ 0 < a0 ∧ ∀ m45, m45 = zwr m44 a0 35 (nx h42) →
  (0 : Int) ≤ 2800 ∧ 2800 ≤ (100000 : Int) ∧ ∀ m46 h46, m46 = znm m45 h44 → h46 = znh h44 101 2800 2800 →
  kd h46 a0 = 13 ∧ 0 < a0 ∧ ∀ m47, m47 = zwr m46 a0 36 (nx h44) →
  (0 : Int) ≤ 64 ∧ 64 ≤ (100000 : Int) ∧ ∀ m48 h48, m48 = znm m47 h46 → h48 = znh h46 101 64 64 →
  kd h48 a0 = 13 ∧ 0 < a0 ∧ ∀ m49, m49 = zwr m48 a0 37 (nx h46) →
  (0 : Int) ≤ 12 ∧ 12 ≤ (100000 : Int) ∧ ∀ m50 h50, m50 = znm m49 h48 → h50 = znh h48 101 12 12 →
  kd h50 a0 = 13 ∧ 0 < a0 ∧ ∀ m51, m51 = zwr m50 a0 39 (nx h48) →
  (0 : Int) ≤ 400 ∧ 400 ≤ (100000 : Int) ∧ ∀ m52 h52, m52 = znm m51 h50 → h52 = znh h50 101 400 400 →
  kd h52 a0 = 13 ∧ 0 < a0 ∧ ∀ m53, m53 = zwr m52 a0 40 (nx h50) →
  kd h52 a0 = 13 ∧ 0 < a0 ∧ ∀ m54, m54 = zwr m53 a0 42 ((-1)) →
  (0 : Int) ≤ 144 ∧ 144 ≤ (100000 : Int) ∧ ∀ m55 h55, m55 = znm m54 h52 → h55 = znh h52 101 144 144 →
  kd h55 a0 = 13 ∧ 0 < a0 ∧ ∀ m56, m56 = zwr m55 a0 44 (nx h52) →
  (0 : Int) ≤ 25 ∧ 25 ≤ (100000 : Int) ∧ ∀ m57 h57, m57 = znm m56 h55 → h57 = znh h55 101 25 25 →
  kd h57 a0 = 13 ∧ 0 < a0 ∧ ∀ m58, m58 = zwr m57 a0 46 (nx h55) →
  (0 : Int) ≤ 9 ∧ 9 ≤ (100000 : Int) ∧ ∀ m59 h59, m59 = znm m58 h57 → h59 = znh h57 101 9 9 →
  kd h59 a0 = 13 ∧ 0 < a0 ∧ ∀ m60, m60 = zwr m59 a0 48 (nx h57) →
  (0 : Int) ≤ 9 ∧ 9 ≤ (100000 : Int) ∧ ∀ m61 h61, m61 = znm m60 h59 → h61 = znh h59 101 9 9 →
  kd h61 a0 = 13 ∧ 0 < a0 ∧ ∀ m62, m62 = zwr m61 a0 49 (nx h59) →
  (0 : Int) ≤ 8 ∧ 8 ≤ (100000 : Int) ∧ ∀ m63 h63, m63 = znm m62 h61 → h63 = znh h61 101 8 8 →
  kd h63 a0 = 13 ∧ 0 < a0 ∧ ∀ m64, m64 = zwr m63 a0 51 (nx h61) →
  (0 : Int) ≤ 12 ∧ 12 ≤ (100000 : Int) ∧ ∀ m65 h65, m65 = znm m64 h63 → h65 = znh h63 101 12 12 →
  kd h65 a0 = 13 ∧ 0 < a0 ∧ ∀ m66, m66 = zwr m65 a0 53 (nx h63) →
  (0 : Int) ≤ 12 ∧ 12 ≤ (100000 : Int) ∧ ∀ m67 h67, m67 = znm m66 h65 → h67 = znh h65 101 12 12 →
  kd h67 a0 = 13 ∧ 0 < a0 ∧ ∀ m68, m68 = zwr m67 a0 54 (nx h65) →
  (0 : Int) ≤ 12 ∧ 12 ≤ (100000 : Int) ∧ ∀ m69 h69, m69 = znm m68 h67 → h69 = znh h67 101 12 12 →
  kd h69 a0 = 13 ∧ 0 < a0 ∧ ∀ m70, m70 = zwr m69 a0 55 (nx h67) →
  (0 : Int) ≤ 12 ∧ 12 ≤ (100000 : Int) ∧ ∀ m71 h71, m71 = znm m70 h69 → h71 = znh h69 101 12 12 →
  kd h71 a0 = 13 ∧ 0 < a0 ∧ ∀ m72, m72 = zwr m71 a0 56 (nx h69) →
  (0 : Int) ≤ 12 ∧ 12 ≤ (100000 : Int) ∧ ∀ m73 h73, m73 = znm m72 h71 → h73 = znh h71 101 12 12 →
  kd h73 a0 = 13 ∧ 0 < a0 ∧ ∀ m74, m74 = zwr m73 a0 57 (nx h71) →
  (0 : Int) ≤ 12 ∧ 12 ≤ (100000 : Int) ∧ ∀ m75 h75, m75 = znm m74 h73 → h75 = znh h73 101 12 12 →
  kd h75 a0 = 13 ∧ 0 < a0 ∧ ∀ m76, m76 = zwr m75 a0 58 (nx h73) →
  (0 : Int) ≤ 12 ∧ 12 ≤ (100000 : Int) ∧ ∀ m77 h77, m77 = znm m76 h75 → h77 = znh h75 101 12 12 →
  kd h77 a0 = 13 ∧ 0 < a0 ∧ ∀ m78, m78 = zwr m77 a0 59 (nx h75) →
  (0 : Int) ≤ 12 ∧ 12 ≤ (100000 : Int) ∧ ∀ m79 h79, m79 = znm m78 h77 → h79 = znh h77 103 12 12 →
  kd h79 a0 = 13 ∧ 0 < a0 ∧ ∀ m80, m80 = zwr m79 a0 60 (nx h77) →
  (0 : Int) ≤ 180 ∧ 180 ≤ (100000 : Int) ∧ ∀ m81 h81, m81 = znm m80 h79 → h81 = znh h79 101 180 180 →
  kd h81 a0 = 13 ∧ 0 < a0 ∧ ∀ m82, m82 = zwr m81 a0 62 (nx h79) →
  (0 : Int) ≤ 180 ∧ 180 ≤ (100000 : Int) ∧ ∀ m83 h83, m83 = znm m82 h81 → h83 = znh h81 101 180 180 →
  kd h83 a0 = 13 ∧ 0 < a0 ∧ ∀ m84, m84 = zwr m83 a0 63 (nx h81) →
  (0 : Int) ≤ 180 ∧ 180 ≤ (100000 : Int) ∧ ∀ m85 h85, m85 = znm m84 h83 → h85 = znh h83 101 180 180 →
  kd h85 a0 = 13 ∧ 0 < a0 ∧ ∀ m86, m86 = zwr m85 a0 64 (nx h83) →
  (0 : Int) ≤ 180 ∧ 180 ≤ (100000 : Int) ∧ ∀ m87 h87, m87 = znm m86 h85 → h87 = znh h85 101 180 180 →
  kd h87 a0 = 13 ∧ 0 < a0 ∧ ∀ m88, m88 = zwr m87 a0 65 (nx h85) →
  (0 : Int) ≤ 180 ∧ 180 ≤ (100000 : Int) ∧ ∀ m89 h89, m89 = znm m88 h87 → h89 = znh h87 101 180 180 →
  kd h89 a0 = 13 ∧ 0 < a0 ∧ ∀ m90, m90 = zwr m89 a0 66 (nx h87) →
  kd h89 a0 = 13 ∧ 0 < a0 ∧ ∀ m91, m91 = zwr m90 a0 67 ((-1)) →
  (0 : Int) ≤ 9 ∧ 9 ≤ (100000 : Int) ∧ ∀ m92 h92, m92 = znm m91 h89 → h92 = znh h89 101 9 9 →
  kd h92 a0 = 13 ∧ 0 < a0 ∧ ∀ m93, m93 = zwr m92 a0 68 (nx h89) →
  (0 : Int) ≤ 9 ∧ 9 ≤ (100000 : Int) ∧ ∀ m94 h94, m94 = znm m93 h92 → h94 = znh h92 101 9 9 →
  kd h94 a0 = 13 ∧ 0 < a0 ∧ ∀ m95, m95 = zwr m94 a0 69 (nx h92) →
  (0 : Int) ≤ 9 ∧ 9 ≤ (100000 : Int) ∧ ∀ m96 h96, m96 = znm m95 h94 → h96 = znh h94 101 9 9 →
  kd h96 a0 = 13 ∧ 0 < a0 ∧ ∀ m97, m97 = zwr m96 a0 70 (nx h94) →
  (0 : Int) ≤ 9 ∧ 9 ≤ (100000 : Int) ∧ ∀ m98 h98, m98 = znm m97 h96 → h98 = znh h96 101 9 9 →
  kd h98 a0 = 13 ∧ 0 < a0 ∧ ∀ m99, m99 = zwr m98 a0 71 (nx h96) →
  (0 : Int) ≤ 9 ∧ 9 ≤ (100000 : Int) ∧ ∀ m100 h100, m100 = znm m99 h98 → h100 = znh h98 101 9 9 →
  kd h100 a0 = 13 ∧ 0 < a0 ∧ ∀ m101, m101 = zwr m100 a0 72 (nx h98) →
  (0 : Int) ≤ 9 ∧ 9 ≤ (100000 : Int) ∧ ∀ m102 h102, m102 = znm m101 h100 → h102 = znh h100 101 9 9 →
  kd h102 a0 = 13 ∧ 0 < a0 ∧ ∀ m103, m103 = zwr m102 a0 73 (nx h100) →
  (0 : Int) ≤ 9 ∧ 9 ≤ (100000 : Int) ∧ ∀ m104 h104, m104 = znm m103 h102 → h104 = znh h102 101 9 9 →
  kd h104 a0 = 13 ∧ 0 < a0 ∧ ∀ m105, m105 = zwr m104 a0 74 (nx h102) →
  (0 : Int) ≤ 9 ∧ 9 ≤ (100000 : Int) ∧ ∀ m106 h106, m106 = znm m105 h104 → h106 = znh h104 101 9 9 →
  kd h106 a0 = 13 ∧ 0 < a0 ∧ ∀ m107, m107 = zwr m106 a0 75 (nx h104) →
  (0 : Int) ≤ 9 ∧ 9 ≤ (100000 : Int) ∧ ∀ m108 h108, m108 = znm m107 h106 → h108 = znh h106 103 9 9 →
  kd h108 a0 = 13 ∧ 0 < a0 ∧ ∀ m109, m109 = zwr m108 a0 76 (nx h106) →
  (0 : Int) ≤ 9 ∧ 9 ≤ (100000 : Int) ∧ ∀ m110 h110, m110 = znm m109 h108 → h110 = znh h108 101 9 9 →
  kd h110 a0 = 13 ∧ 0 < a0 ∧ ∀ m111, m111 = zwr m110 a0 77 (nx h108) →
  (0 : Int) ≤ 9 ∧ 9 ≤ (100000 : Int) ∧ ∀ m112 h112, m112 = znm m111 h110 → h112 = znh h110 101 9 9 →
  kd h112 a0 = 13 ∧ 0 < a0 ∧ ∀ m113, m113 = zwr m112 a0 78 (nx h110) →
  (0 : Int) ≤ 9 ∧ 9 ≤ (100000 : Int) ∧ ∀ m114 h114, m114 = znm m113 h112 → h114 = znh h112 103 9 9 →
  kd h114 a0 = 13 ∧ 0 < a0 ∧ ∀ m115, m115 = zwr m114 a0 79 (nx h112) →
  (0 : Int) ≤ 8 ∧ 8 ≤ (100000 : Int) ∧ ∀ m116 h116, m116 = znm m115 h114 → h116 = znh h114 101 8 8 →
  kd h116 a0 = 13 ∧ 0 < a0 ∧ ∀ m117, m117 = zwr m116 a0 80 (nx h114) →
  (0 : Int) ≤ 8 ∧ 8 ≤ (100000 : Int) ∧ ∀ m118 h118, m118 = znm m117 h116 → h118 = znh h116 101 8 8 →
  kd h118 a0 = 13 ∧ 0 < a0 ∧ ∀ m119, m119 = zwr m118 a0 81 (nx h116) →
  (0 : Int) ≤ 12 ∧ 12 ≤ (100000 : Int) ∧ ∀ m120 h120, m120 = znm m119 h118 → h120 = znh h118 103 12 12 →
  kd h120 a0 = 13 ∧ 0 < a0 ∧ ∀ m121, m121 = zwr m120 a0 82 (nx h118) →
  (0 : Int) ≤ 7560 ∧ 7560 ≤ (100000 : Int) ∧ ∀ m122 h122, m122 = znm m121 h120 → h122 = znh h120 101 7560 7560 →
  kd h122 a0 = 13 ∧ 0 < a0 ∧ ∀ m123, m123 = zwr m122 a0 83 (nx h120) →
  (0 : Int) ≤ 7560 ∧ 7560 ≤ (100000 : Int) ∧ ∀ m124 h124, m124 = znm m123 h122 → h124 = znh h122 101 7560 7560 →
  kd h124 a0 = 13 ∧ 0 < a0 ∧ ∀ m125, m125 = zwr m124 a0 84 (nx h122) →
  (0 : Int) ≤ 1080 ∧ 1080 ≤ (100000 : Int) ∧ ∀ m126 h126, m126 = znm m125 h124 → h126 = znh h124 103 1080 1080 →
  kd h126 a0 = 13 ∧ 0 < a0 ∧ ∀ m127, m127 = zwr m126 a0 85 (nx h124) →
  (0 : Int) ≤ 180 ∧ 180 ≤ (100000 : Int) ∧ ∀ m128 h128, m128 = znm m127 h126 → h128 = znh h126 101 180 180 →
  kd h128 a0 = 13 ∧ 0 < a0 ∧ ∀ m129, m129 = zwr m128 a0 86 (nx h126) →
  (0 : Int) ≤ 180 ∧ 180 ≤ (100000 : Int) ∧ ∀ m130 h130, m130 = znm m129 h128 → h130 = znh h128 101 180 180 →
  kd h130 a0 = 13 ∧ 0 < a0 ∧ ∀ m131, m131 = zwr m130 a0 87 (nx h128) →
  (0 : Int) ≤ 180 ∧ 180 ≤ (100000 : Int) ∧ ∀ m132 h132, m132 = znm m131 h130 → h132 = znh h130 101 180 180 →
  kd h132 a0 = 13 ∧ 0 < a0 ∧ ∀ m133, m133 = zwr m132 a0 88 (nx h130) →
  (0 : Int) ≤ 180 ∧ 180 ≤ (100000 : Int) ∧ ∀ m134 h134, m134 = znm m133 h132 → h134 = znh h132 101 180 180 →
  kd h134 a0 = 13 ∧ 0 < a0 ∧ ∀ m135, m135 = zwr m134 a0 89 (nx h132) →
  (0 : Int) ≤ 180 ∧ 180 ≤ (100000 : Int) ∧ ∀ m136 h136, m136 = znm m135 h134 → h136 = znh h134 101 180 180 →
  kd h136 a0 = 13 ∧ 0 < a0 ∧ ∀ m137, m137 = zwr m136 a0 90 (nx h134) →
  (0 : Int) ≤ 180 ∧ 180 ≤ (100000 : Int) ∧ ∀ m138 h138, m138 = znm m137 h136 → h138 = znh h136 103 180 180 →
  kd h138 a0 = 13 ∧ 0 < a0 ∧ ∀ m139, m139 = zwr m138 a0 91 (nx h136) →
  (0 : Int) ≤ 180 ∧ 180 ≤ (100000 : Int) ∧ ∀ m140 h140, m140 = znm m139 h138 → h140 = znh h138 101 180 180 →
  kd h140 a0 = 13 ∧ 0 < a0 ∧ ∀ m141, m141 = zwr m140 a0 92 (nx h138) →
  (0 : Int) ≤ 180 ∧ 180 ≤ (100000 : Int) ∧ ∀ m142 h142, m142 = znm m141 h140 → h142 = znh h140 103 180 180 →
  kd h142 a0 = 13 ∧ 0 < a0 ∧ ∀ m143, m143 = zwr m142 a0 93 (nx h140) →
  (0 : Int) ≤ 180 ∧ 180 ≤ (100000 : Int) ∧ ∀ m144 h144, m144 = znm m143 h142 → h144 = znh h142 101 180 180 →
  kd h144 a0 = 13 ∧ 0 < a0 ∧ ∀ m145, m145 = zwr m144 a0 94 (nx h142) →
  (0 : Int) ≤ 180 ∧ 180 ≤ (100000 : Int) ∧ ∀ m146 h146, m146 = znm m145 h144 → h146 = znh h144 101 180 180 →
  kd h146 a0 = 13 ∧ 0 < a0 ∧ ∀ m147, m147 = zwr m146 a0 95 (nx h144) →
  (0 : Int) ≤ 108 ∧ 108 ≤ (100000 : Int) ∧ ∀ m148 h148, m148 = znm m147 h146 → h148 = znh h146 101 108 108 →
  kd h148 a0 = 13 ∧ 0 < a0 ∧ ∀ m149, m149 = zwr m148 a0 96 (nx h146) →
  (0 : Int) ≤ 8 ∧ 8 ≤ (100000 : Int) ∧ ∀ m150 h150, m150 = znm m149 h148 → h150 = znh h148 101 8 8 →
  kd h150 a0 = 13 ∧ 0 < a0 ∧ ∀ m151, m151 = zwr m150 a0 97 (nx h148) →
  (0 : Int) ≤ 4608 ∧ 4608 ≤ (100000 : Int) ∧ ∀ m152 h152, m152 = znm m151 h150 → h152 = znh h150 101 4608 4608 →
  kd h152 a0 = 13 ∧ 0 < a0 ∧ ∀ m153, m153 = zwr m152 a0 99 (nx h150) →
  (0 : Int) ≤ 12 ∧ 12 ≤ (100000 : Int) ∧ ∀ m154 h154, m154 = znm m153 h152 → h154 = znh h152 101 12 12 →
  kd h154 a0 = 13 ∧ 0 < a0 ∧ ∀ m155, m155 = zwr m154 a0 102 (nx h152) →
  (0 : Int) ≤ 7 ∧ 7 ≤ (100000 : Int) ∧ ∀ m156 h156, m156 = znm m155 h154 → h156 = znh h154 101 7 7 →
  kd h156 a0 = 13 ∧ 0 < a0 ∧ ∀ m157, m157 = zwr m156 a0 103 (nx h154) →
  (0 : Int) ≤ 7 ∧ 7 ≤ (100000 : Int) ∧ ∀ m158 h158, m158 = znm m157 h156 → h158 = znh h156 101 7 7 →
  kd h158 a0 = 13 ∧ 0 < a0 ∧ ∀ m159, m159 = zwr m158 a0 104 (nx h156) →
  (0 : Int) ≤ 9 ∧ 9 ≤ (100000 : Int) ∧ ∀ m160 h160, m160 = znm m159 h158 → h160 = znh h158 101 9 9 →
  kd h160 a0 = 13 ∧ 0 < a0 ∧ ∀ m161, m161 = zwr m160 a0 107 (nx h158) →
  (0 : Int) ≤ 7 ∧ 7 ≤ (100000 : Int) ∧ ∀ m162 h162, m162 = znm m161 h160 → h162 = znh h160 101 7 7 →
  kd h162 a0 = 13 ∧ 0 < a0 ∧ ∀ m163, m163 = zwr m162 a0 108 (nx h160) →
  (0 : Int) ≤ 72 ∧ 72 ≤ (100000 : Int) ∧ ∀ m164 h164, m164 = znm m163 h162 → h164 = znh h162 103 72 72 →
  kd h164 a0 = 13 ∧ 0 < a0 ∧ ∀ m165, m165 = zwr m164 a0 109 (nx h162) →
  (0 : Int) ≤ 9 ∧ 9 ≤ (100000 : Int) ∧ ∀ m166 h166, m166 = znm m165 h164 → h166 = znh h164 101 9 9 →
  kd h166 a0 = 13 ∧ 0 < a0 ∧ ∀ m167, m167 = zwr m166 a0 110 (nx h164) →
  (0 : Int) ≤ 5 ∧ 5 ≤ (100000 : Int) ∧ ∀ m168 h168, m168 = znm m167 h166 → h168 = znh h166 101 5 5 →
  kd h168 a0 = 13 ∧ 0 < a0 ∧ ∀ m169, m169 = zwr m168 a0 111 (nx h166) →
  (0 : Int) ≤ 5 ∧ 5 ≤ (100000 : Int) ∧ ∀ m170 h170, m170 = znm m169 h168 → h170 = znh h168 101 5 5 →
  kd h170 a0 = 13 ∧ 0 < a0 ∧ ∀ m171, m171 = zwr m170 a0 112 (nx h168) →
  (0 : Int) ≤ 32 ∧ 32 ≤ (100000 : Int) ∧ ∀ m172 h172, m172 = znm m171 h170 → h172 = znh h170 103 32 32 →
  kd h172 a0 = 13 ∧ 0 < a0 ∧ ∀ m173, m173 = zwr m172 a0 113 (nx h170) →
  (0 : Int) ≤ 4096 ∧ 4096 ≤ (100000 : Int) ∧ ∀ m174 h174, m174 = znm m173 h172 → h174 = znh h172 103 4096 4096 →
  kd h174 a0 = 13 ∧ 0 < a0 ∧ ∀ m175, m175 = zwr m174 a0 114 (nx h172) →
  (0 : Int) ≤ 180 ∧ 180 ≤ (100000 : Int) ∧ ∀ m176 h176, m176 = znm m175 h174 → h176 = znh h174 101 180 180 →
  kd h176 a0 = 13 ∧ 0 < a0 ∧ ∀ m177, m177 = zwr m176 a0 116 (nx h174) →
  (0 : Int) ≤ 180 ∧ 180 ≤ (100000 : Int) ∧ ∀ m178 h178, m178 = znm m177 h176 → h178 = znh h176 103 180 180 →
  kd h178 a0 = 13 ∧ 0 < a0 ∧ ∀ m179, m179 = zwr m178 a0 119 (nx h176) →
  kd h178 a0 = 13 ∧ zcal WP d n_Mo_word [.inl 102, .inl 114, .inl 111, .inl 109, .inl 0, .inl 0, .inl 0] m179 h178 (zk2 fun r180 m180 h180 =>
  kd h180 (m179 a0 9) = 104 ∧ 0 < (m179 a0 9) ∧ (0 : Int) ≤ 0 ∧ 0 < ln h180 (m179 a0 9) ∧ ∀ m181, m181 = zwr m180 (m179 a0 9) 0 r180 →
  kd h180 a0 = 13 ∧ zcal WP d n_Mo_word [.inl 98, .inl 97, .inl 114, .inl 0, .inl 0, .inl 0, .inl 0] m181 h180 (zk2 fun r182 m182 h182 =>
  kd h182 (m181 a0 9) = 104 ∧ 0 < (m181 a0 9) ∧ (0 : Int) ≤ 1 ∧ 1 < ln h182 (m181 a0 9) ∧ ∀ m183, m183 = zwr m182 (m181 a0 9) 1 r182 →
  kd h182 a0 = 13 ∧ zcal WP d n_Mo_word [.inl 105, .inl 102, .inl 0, .inl 0, .inl 0, .inl 0, .inl 0] m183 h182 (zk2 fun r184 m184 h184 =>
  kd h184 (m183 a0 9) = 104 ∧ 0 < (m183 a0 9) ∧ (0 : Int) ≤ 2 ∧ 2 < ln h184 (m183 a0 9) ∧ ∀ m185, m185 = zwr m184 (m183 a0 9) 2 r184 →
  kd h184 a0 = 13 ∧ zcal WP d n_Mo_word [.inl 100, .inl 117, .inl 101, .inl 0, .inl 0, .inl 0, .inl 0] m185 h184 (zk2 fun r186 m186 h186 =>
  kd h186 (m185 a0 9) = 104 ∧ 0 < (m185 a0 9) ∧ (0 : Int) ≤ 3 ∧ 3 < ln h186 (m185 a0 9) ∧ ∀ m187, m187 = zwr m186 (m185 a0 9) 3 r186 →
  kd h186 a0 = 13 ∧ zcal WP d n_Mo_word [.inl 119, .inl 101, .inl 97, .inl 114, .inl 0, .inl 0, .inl 0] m187 h186 (zk2 fun r188 m188 h188 =>
  kd h188 (m187 a0 9) = 104 ∧ 0 < (m187 a0 9) ∧ (0 : Int) ≤ 4 ∧ 4 < ln h188 (m187 a0 9) ∧ ∀ m189, m189 = zwr m188 (m187 a0 9) 4 r188 →
  kd h188 a0 = 13 ∧ zcal WP d n_Mo_word [.inl 99, .inl 111, .inl 97, .inl 108, .inl 0, .inl 0, .inl 0] m189 h188 (zk2 fun r190 m190 h190 =>
  kd h190 (m189 a0 9) = 104 ∧ 0 < (m189 a0 9) ∧ (0 : Int) ≤ 5 ∧ 5 < ln h190 (m189 a0 9) ∧ ∀ m191, m191 = zwr m190 (m189 a0 9) 5 r190 →
  kd h190 a0 = 13 ∧ zcal WP d n_Mo_word [.inl 112, .inl 114, .inl 105, .inl 99, .inl 101, .inl 0, .inl 0] m191 h190 (zk2 fun r192 m192 h192 =>
  kd h192 (m191 a0 9) = 104 ∧ 0 < (m191 a0 9) ∧ (0 : Int) ≤ 6 ∧ 6 < ln h192 (m191 a0 9) ∧ ∀ m193, m193 = zwr m192 (m191 a0 9) 6 r192 →
  kd h192 a0 = 13 ∧ zcal WP d n_Mo_word [.inl 115, .inl 116, .inl 114, .inl 105, .inl 107, .inl 101, .inl 0] m193 h192 (zk2 fun r194 m194 h194 =>
  kd h194 (m193 a0 9) = 104 ∧ 0 < (m193 a0 9) ∧ (0 : Int) ≤ 7 ∧ 7 < ln h194 (m193 a0 9) ∧ ∀ m195, m195 = zwr m194 (m193 a0 9) 7 r194 →
  kd h194 a0 = 13 ∧ zcal WP d n_Mo_word [.inl 111, .inl 114, .inl 0, .inl 0, .inl 0, .inl 0, .inl 0] m195 h194 (zk2 fun r196 m196 h196 =>
  kd h196 (m195 a0 9) = 104 ∧ 0 < (m195 a0 9) ∧ (0 : Int) ≤ 8 ∧ 8 < ln h196 (m195 a0 9) ∧ ∀ m197, m197 = zwr m196 (m195 a0 9) 8 r196 →
  kd h196 a0 = 13 ∧ zcal WP d n_Mo_word [.inl 97, .inl 110, .inl 100, .inl 0, .inl 0, .inl 0, .inl 0] m197 h196 (zk2 fun r198 m198 h198 =>
  kd h198 (m197 a0 9) = 104 ∧ 0 < (m197 a0 9) ∧ (0 : Int) ≤ 9 ∧ 9 < ln h198 (m197 a0 9) ∧ ∀ m199, m199 = zwr m198 (m197 a0 9) 9 r198 →
  kd h198 a0 = 13 ∧ zcal WP d n_Mo_word [.inl 110, .inl 111, .inl 116, .inl 0, .inl 0, .inl 0, .inl 0] m199 h198 (zk2 fun r200 m200 h200 =>
  kd h200 (m199 a0 9) = 104 ∧ 0 < (m199 a0 9) ∧ (0 : Int) ≤ 10 ∧ 10 < ln h200 (m199 a0 9) ∧ ∀ m201, m201 = zwr m200 (m199 a0 9) 10 r200 →
  kd h200 a0 = 13 ∧ zcal WP d n_Mo_word [.inl 100, .inl 97, .inl 121, .inl 0, .inl 0, .inl 0, .inl 0] m201 h200 (zk2 fun r202 m202 h202 =>
  kd h202 (m201 a0 9) = 104 ∧ 0 < (m201 a0 9) ∧ (0 : Int) ≤ 11 ∧ 11 < ln h202 (m201 a0 9) ∧ ∀ m203, m203 = zwr m202 (m201 a0 9) 11 r202 →
  kd h202 a0 = 13 ∧ zcal WP d n_Mo_word [.inl 99, .inl 108, .inl 97, .inl 115, .inl 115, .inl 0, .inl 0] m203 h202 (zk2 fun r204 m204 h204 =>
  kd h204 (m203 a0 9) = 104 ∧ 0 < (m203 a0 9) ∧ (0 : Int) ≤ 12 ∧ 12 < ln h204 (m203 a0 9) ∧ ∀ m205, m205 = zwr m204 (m203 a0 9) 12 r204 →
  kd h204 a0 = 13 ∧ zcal WP d n_Mo_word [.inl 109, .inl 105, .inl 108, .inl 101, .inl 115, .inl 0, .inl 0] m205 h204 (zk2 fun r206 m206 h206 =>
  kd h206 (m205 a0 9) = 104 ∧ 0 < (m205 a0 9) ∧ (0 : Int) ≤ 13 ∧ 13 < ln h206 (m205 a0 9) ∧ ∀ m207, m207 = zwr m206 (m205 a0 9) 13 r206 →
  kd h206 a0 = 13 ∧ zcal WP d n_Mo_word [.inl 100, .inl 97, .inl 121, .inl 115, .inl 0, .inl 0, .inl 0] m207 h206 (zk2 fun r208 m208 h208 =>
  kd h208 (m207 a0 9) = 104 ∧ 0 < (m207 a0 9) ∧ (0 : Int) ≤ 14 ∧ 14 < ln h208 (m207 a0 9) ∧ ∀ m209, m209 = zwr m208 (m207 a0 9) 14 r208 →
  kd h208 a0 = 13 ∧ zcal WP d n_Mo_word [.inl 108, .inl 111, .inl 111, .inl 107, .inl 101, .inl 100, .inl 0] m209 h208 (zk2 fun r210 m210 h210 =>
  kd h210 (m209 a0 9) = 104 ∧ 0 < (m209 a0 9) ∧ (0 : Int) ≤ 15 ∧ 15 < ln h210 (m209 a0 9) ∧ ∀ m211, m211 = zwr m210 (m209 a0 9) 15 r210 →
  kd h210 a0 = 13 ∧ zcal WP d n_Mo_word [.inl 119, .inl 111, .inl 114, .inl 110, .inl 0, .inl 0, .inl 0] m211 h210 (zk2 fun r212 m212 h212 =>
  kd h212 (m211 a0 9) = 104 ∧ 0 < (m211 a0 9) ∧ (0 : Int) ≤ 16 ∧ 16 < ln h212 (m211 a0 9) ∧ ∀ m213, m213 = zwr m212 (m211 a0 9) 16 r212 →
  kd h212 a0 = 13 ∧ zcal WP d n_Mo_word [.inl 108, .inl 111, .inl 97, .inl 100, .inl 0, .inl 0, .inl 0] m213 h212 (zk2 fun r214 m214 h214 =>
  kd h214 (m213 a0 9) = 104 ∧ 0 < (m213 a0 9) ∧ (0 : Int) ≤ 17 ∧ 17 < ln h214 (m213 a0 9) ∧ ∀ m215, m215 = zwr m214 (m213 a0 9) 17 r214 →
  kd h214 a0 = 13 ∧ zcal WP d n_Mo_word [.inl 108, .inl 105, .inl 110, .inl 101, .inl 0, .inl 0, .inl 0] m215 h214 (zk2 fun r216 m216 h216 =>
  kd h216 (m215 a0 9) = 104 ∧ 0 < (m215 a0 9) ∧ (0 : Int) ≤ 18 ∧ 18 < ln h216 (m215 a0 9) ∧ ∀ m217, m217 = zwr m216 (m215 a0 9) 18 r216 →
  kd h216 a0 = 13 ∧ zcal WP d n_Mo_word [.inl 104, .inl 111, .inl 117, .inl 114, .inl 115, .inl 0, .inl 0] m217 h216 (zk2 fun r218 m218 h218 =>
  kd h218 (m217 a0 9) = 104 ∧ 0 < (m217 a0 9) ∧ (0 : Int) ≤ 19 ∧ 19 < ln h218 (m217 a0 9) ∧ ∀ m219, m219 = zwr m218 (m217 a0 9) 19 r218 →
  kd h218 a0 = 13 ∧ zcal WP d n_Mo_word [.inl 102, .inl 97, .inl 114, .inl 0, .inl 0, .inl 0, .inl 0] m219 h218 (zk2 fun r220 m220 h220 =>
  kd h220 (m219 a0 9) = 104 ∧ 0 < (m219 a0 9) ∧ (0 : Int) ≤ 20 ∧ 20 < ln h220 (m219 a0 9) ∧ ∀ m221, m221 = zwr m220 (m219 a0 9) 20 r220 →
  kd h220 a0 = 13 ∧ zcal WP d n_Mo_word [.inl 108, .inl 101, .inl 110, .inl 116, .inl 0, .inl 0, .inl 0] m221 h220 (zk2 fun r222 m222 h222 =>
  kd h222 (m221 a0 9) = 104 ∧ 0 < (m221 a0 9) ∧ (0 : Int) ≤ 21 ∧ 21 < ln h222 (m221 a0 9) ∧ ∀ m223, m223 = zwr m222 (m221 a0 9) 21 r222 →
  kd h222 a0 = 13 ∧ zcal WP d n_Mo_word [.inl 115, .inl 112, .inl 97, .inl 114, .inl 101, .inl 0, .inl 0] m223 h222 (zk2 fun r224 m224 h224 =>
  kd h224 (m223 a0 9) = 104 ∧ 0 < (m223 a0 9) ∧ (0 : Int) ≤ 22 ∧ 22 < ln h224 (m223 a0 9) ∧ ∀ m225, m225 = zwr m224 (m223 a0 9) 22 r224 →
  q_Mo_init_1243 d a0 0 m225 h224 Q)))))))))))))))))))))))) : q_Mo_init_0 d a0 m h Q := zvc_ok zc_Mo_init zm_Mo_init 700 (fun _ => rfl) H
set_option maxRecDepth 100000 in
set_option maxHeartbeats 8000000 in
theorem s_Mo_init_1243 (d : Nat) (a0 a1 : Int) (m : zM) (h : zH) (Q : zQ) (H :
  ((25 : Int) ≤ a1 →
    q_Mo_init_1275 d a0 0 m h Q) ∧
  (¬ ((25 : Int) ≤ a1) →
    kd h a0 = 13 ∧ (6 : Int) ≠ 0 ∧ ((zrem a1 6) ≠ 0 →
      kd h (m a0 46) = 101 ∧ 0 < (m a0 46) ∧ (0 : Int) ≤ a1 ∧ a1 < ln h (m a0 46) ∧ ∀ m1, m1 = zwr m (m a0 46) a1 1 →
      q_Mo_init_1243 d a0 (w32 (a1 + 1)) m1 h Q) ∧
    (¬ ((zrem a1 6) ≠ 0) →
      kd h (m a0 46) = 101 ∧ 0 < (m a0 46) ∧ (0 : Int) ≤ a1 ∧ a1 < ln h (m a0 46) ∧ ∀ m1, m1 = zwr m (m a0 46) a1 0 →
      q_Mo_init_1243 d a0 (w32 (a1 + 1)) m1 h Q))) : q_Mo_init_1243 d a0 a1 m h Q := zvc_ok zc_Mo_init zm_Mo_init 700 (fun _ => rfl) H
set_option maxRecDepth 100000 in
set_option maxHeartbeats 8000000 in
theorem s_Mo_init_1275 (d : Nat) (a0 a1 : Int) (m : zM) (h : zH) (Q : zQ) (H :
  ((72 : Int) ≤ a1 →
    q_Mo_init_1296 d a0 0 m h Q) ∧
  (¬ ((72 : Int) ≤ a1) →
    kd h a0 = 13 ∧ ((1 : Int) = 0 ∨ (1 : Int) = 1) ∧ kd h (m a0 109) = 103 ∧ 0 < (m a0 109) ∧ (0 : Int) ≤ a1 ∧ a1 < ln h (m a0 109) ∧ ∀ m1, m1 = zwr m (m a0 109) a1 1 →
    q_Mo_init_1275 d a0 (w32 (a1 + 1)) m1 h Q)) : q_Mo_init_1275 d a0 a1 m h Q := zvc_ok zc_Mo_init zm_Mo_init 700 (fun _ => rfl) H
set_option maxRecDepth 100000 in
set_option maxHeartbeats 8000000 in
theorem s_Mo_init_1296 (d : Nat) (a0 a1 : Int) (m : zM) (h : zH) (Q : zQ) (H :
  ((9 : Int) ≤ a1 →
    q_Mo_init_1324 d a0 0 m h Q) ∧
  (¬ ((9 : Int) ≤ a1) →
    kd h a0 = 13 ∧ kd h (m a0 107) = 101 ∧ 0 < (m a0 107) ∧ (0 : Int) ≤ a1 ∧ a1 < ln h (m a0 107) ∧ ∀ m1, m1 = zwr m (m a0 107) a1 ((-1)) →
    kd h a0 = 13 ∧ kd h (m1 a0 110) = 101 ∧ 0 < (m1 a0 110) ∧ (0 : Int) ≤ a1 ∧ a1 < ln h (m1 a0 110) ∧ ∀ m2, m2 = zwr m1 (m1 a0 110) a1 ((-1)) →
    q_Mo_init_1296 d a0 (w32 (a1 + 1)) m2 h Q)) : q_Mo_init_1296 d a0 a1 m h Q := zvc_ok zc_Mo_init zm_Mo_init 700 (fun _ => rfl) H
set_option maxRecDepth 100000 in
set_option maxHeartbeats 8000000 in
theorem s_Mo_init_1324 (d : Nat) (a0 a1 : Int) (m : zM) (h : zH) (Q : zQ) (H :
  ((12 : Int) ≤ a1 →
    Q none m h) ∧
  (¬ ((12 : Int) ≤ a1) →
    kd h a0 = 13 ∧ kd h (m a0 102) = 101 ∧ 0 < (m a0 102) ∧ (0 : Int) ≤ a1 ∧ a1 < ln h (m a0 102) ∧ ∀ m1, m1 = zwr m (m a0 102) a1 ((-1)) →
    q_Mo_init_1324 d a0 (w32 (a1 + 1)) m1 h Q)) : q_Mo_init_1324 d a0 a1 m h Q := zvc_ok zc_Mo_init zm_Mo_init 700 (fun _ => rfl) H
theorem e_Mo_init (d : Nat) (a0 : Int) (m : zM) (h : zH) (Q : zQ) (H : q_Mo_init_0 d a0 m h Q) : zcal WP (d + 1) n_Mo_init [.inr (.inr a0)] m h Q := zcal_mk rfl H
def zm_Mo_feed : Nat → Option (List Bool) := fun pc => none
abbrev q_Mo_feed_0 (d : Nat) (a0 a1 a2 a3 a4 a5 : Int) (m : zM) (h : zH) (Q : zQ) : Prop := WP d n_Mo_feed 0 [some (.inr (.inr a0)), some (.inl a1), some (.inl a2), some (.inl a3), some (.inl a4), some (.inl a5)] [] m h Q
set_option maxRecDepth 100000 in
set_option maxHeartbeats 8000000 in
theorem s_Mo_feed_0 (d : Nat) (a0 a1 a2 a3 a4 a5 : Int) (m : zM) (h : zH) (Q : zQ) (H :
  kd h a0 = 13 ∧ ((w32 ((m a0 2) + 20)) ≤ 2000 →
    kd h a0 = 13 ∧ zcal WP d n_Mo_put [.inr (.inr a0), .inl a1] m h (zk0 fun m1 h1 =>
    kd h1 a0 = 13 ∧ zcal WP d n_Mo_put [.inr (.inr a0), .inl a2] m1 h1 (zk0 fun m2 h2 =>
    kd h2 a0 = 13 ∧ zcal WP d n_Mo_put [.inr (.inr a0), .inl a3] m2 h2 (zk0 fun m3 h3 =>
    kd h3 a0 = 13 ∧ zcal WP d n_Mo_put [.inr (.inr a0), .inl a4] m3 h3 (zk0 fun m4 h4 =>
    kd h4 a0 = 13 ∧ zcal WP d n_Mo_put [.inr (.inr a0), .inl a5] m4 h4 (zk0 fun m5 h5 =>
    kd h5 a0 = 13 ∧ Q (some (.inl (m5 a0 2))) m5 h5)))))) ∧
  (¬ ((w32 ((m a0 2) + 20)) ≤ 2000) →
    Q (some (.inl ((-1)))) m h)) : q_Mo_feed_0 d a0 a1 a2 a3 a4 a5 m h Q := zvc_ok zc_Mo_feed zm_Mo_feed 27 (fun _ => rfl) H
theorem e_Mo_feed (d : Nat) (a0 a1 a2 a3 a4 a5 : Int) (m : zM) (h : zH) (Q : zQ) (H : q_Mo_feed_0 d a0 a1 a2 a3 a4 a5 m h Q) : zcal WP (d + 1) n_Mo_feed [.inr (.inr a0), .inl a1, .inl a2, .inl a3, .inl a4, .inl a5] m h Q := zcal_mk rfl H
def zm_Mo_put : Nat → Option (List Bool) := fun pc => bif Nat.beq pc 3 then some [true, true, true] else (none)
abbrev q_Mo_put_0 (d : Nat) (a0 a1 : Int) (m : zM) (h : zH) (Q : zQ) : Prop := WP d n_Mo_put 0 [some (.inr (.inr a0)), some (.inl a1), none] [] m h Q
abbrev q_Mo_put_3 (d : Nat) (a0 a1 a2 : Int) (m : zM) (h : zH) (Q : zQ) : Prop := WP d n_Mo_put 3 [some (.inr (.inr a0)), some (.inl a1), some (.inl a2)] [] m h Q
set_option maxRecDepth 100000 in
set_option maxHeartbeats 8000000 in
theorem s_Mo_put_0 (d : Nat) (a0 a1 : Int) (m : zM) (h : zH) (Q : zQ) (H :
  q_Mo_put_3 d a0 a1 24 m h Q) : q_Mo_put_0 d a0 a1 m h Q := zvc_ok zc_Mo_put zm_Mo_put 23 (fun _ => rfl) H
set_option maxRecDepth 100000 in
set_option maxHeartbeats 8000000 in
theorem s_Mo_put_3 (d : Nat) (a0 a1 a2 : Int) (m : zM) (h : zH) (Q : zQ) (H :
  (a2 < 0 →
    Q none m h) ∧
  (¬ (a2 < 0) →
    kd h a0 = 13 ∧ kd h a0 = 13 ∧ kd h (m a0 1) = 102 ∧ 0 < (m a0 1) ∧ (0 : Int) ≤ (m a0 2) ∧ (m a0 2) < ln h (m a0 1) ∧ ∀ m1, m1 = zwr m (m a0 1) (m a0 2) (w8 (w8 (zshr a1 a2))) →
    kd h a0 = 13 ∧ kd h a0 = 13 ∧ 0 < a0 ∧ ∀ m2, m2 = zwr m1 a0 2 (w32 ((m1 a0 2) + 1)) →
    q_Mo_put_3 d a0 a1 (w32 (a2 + (-8))) m2 h Q)) : q_Mo_put_3 d a0 a1 a2 m h Q := zvc_ok zc_Mo_put zm_Mo_put 23 (fun _ => rfl) H
theorem e_Mo_put (d : Nat) (a0 a1 : Int) (m : zM) (h : zH) (Q : zQ) (H : q_Mo_put_0 d a0 a1 m h Q) : zcal WP (d + 1) n_Mo_put [.inr (.inr a0), .inl a1] m h Q := zcal_mk rfl H
def zm_Mo_back : Nat → Option (List Bool) := fun pc => none
abbrev q_Mo_back_0 (d : Nat) (a0 a1 : Int) (m : zM) (h : zH) (Q : zQ) : Prop := WP d n_Mo_back 0 [some (.inr (.inr a0)), some (.inl a1)] [] m h Q
set_option maxRecDepth 100000 in
set_option maxHeartbeats 8000000 in
theorem s_Mo_back_0 (d : Nat) (a0 a1 : Int) (m : zM) (h : zH) (Q : zQ) (H :
  (a1 < 0 →
    Q (some (.inl ((-1)))) m h) ∧
  (¬ (a1 < 0) →
    kd h a0 = 13 ∧ (a1 ≤ (m a0 2) →
      kd h a0 = 13 ∧ kd h a0 = 13 ∧ 0 < a0 ∧ ∀ m1, m1 = zwr m a0 2 (w32 ((m a0 2) - a1)) →
      kd h a0 = 13 ∧ Q (some (.inl (m1 a0 2))) m1 h) ∧
    (¬ (a1 ≤ (m a0 2)) →
      Q (some (.inl ((-1)))) m h))) : q_Mo_back_0 d a0 a1 m h Q := zvc_ok zc_Mo_back zm_Mo_back 18 (fun _ => rfl) H
theorem e_Mo_back (d : Nat) (a0 a1 : Int) (m : zM) (h : zH) (Q : zQ) (H : q_Mo_back_0 d a0 a1 m h Q) : zcal WP (d + 1) n_Mo_back [.inr (.inr a0), .inl a1] m h Q := zcal_mk rfl H
def zm_Mo_at : Nat → Option (List Bool) := fun pc => none
abbrev q_Mo_at_0 (d : Nat) (a0 a1 : Int) (m : zM) (h : zH) (Q : zQ) : Prop := WP d n_Mo_at 0 [some (.inr (.inr a0)), some (.inl a1)] [] m h Q
set_option maxRecDepth 100000 in
set_option maxHeartbeats 8000000 in
theorem s_Mo_at_0 (d : Nat) (a0 a1 : Int) (m : zM) (h : zH) (Q : zQ) (H :
  kd h a0 = 13 ∧ ((m a0 4) ≤ a1 →
    Q (some (.inl (0 : Int))) m h) ∧
  (¬ ((m a0 4) ≤ a1) →
    kd h a0 = 13 ∧ kd h (m a0 3) = 102 ∧ (0 : Int) ≤ a1 ∧ a1 < ln h (m a0 3) ∧ Q (some (.inl (zand (m (m a0 3) a1) 255))) m h)) : q_Mo_at_0 d a0 a1 m h Q := zvc_ok zc_Mo_at zm_Mo_at 14 (fun _ => rfl) H
theorem e_Mo_at (d : Nat) (a0 a1 : Int) (m : zM) (h : zH) (Q : zQ) (H : q_Mo_at_0 d a0 a1 m h Q) : zcal WP (d + 1) n_Mo_at [.inr (.inr a0), .inl a1] m h Q := zcal_mk rfl H
def zm_Mo_isDigit : Nat → Option (List Bool) := fun pc => none
abbrev q_Mo_isDigit_0 (d : Nat) (a0 : Int) (m : zM) (h : zH) (Q : zQ) : Prop := WP d n_Mo_isDigit 0 [some (.inl a0)] [] m h Q
set_option maxRecDepth 100000 in
set_option maxHeartbeats 8000000 in
theorem s_Mo_isDigit_0 (d : Nat) (a0 : Int) (m : zM) (h : zH) (Q : zQ) (H :
  (a0 < 48 →
    ((0 : Int) = 0 ∨ (0 : Int) = 1) ∧ Q (some (.inl (0 : Int))) m h) ∧
  (¬ (a0 < 48) →
    ((57 : Int) < a0 →
      ((0 : Int) = 0 ∨ (0 : Int) = 1) ∧ Q (some (.inl (0 : Int))) m h) ∧
    (¬ ((57 : Int) < a0) →
      ((1 : Int) = 0 ∨ (1 : Int) = 1) ∧ Q (some (.inl (1 : Int))) m h))) : q_Mo_isDigit_0 d a0 m h Q := zvc_ok zc_Mo_isDigit zm_Mo_isDigit 11 (fun _ => rfl) H
theorem e_Mo_isDigit (d : Nat) (a0 : Int) (m : zM) (h : zH) (Q : zQ) (H : q_Mo_isDigit_0 d a0 m h Q) : zcal WP (d + 1) n_Mo_isDigit [.inl a0] m h Q := zcal_mk rfl H
def zm_Mo_isLetter : Nat → Option (List Bool) := fun pc => none
abbrev q_Mo_isLetter_0 (d : Nat) (a0 : Int) (m : zM) (h : zH) (Q : zQ) : Prop := WP d n_Mo_isLetter 0 [some (.inl a0)] [] m h Q
set_option maxRecDepth 100000 in
set_option maxHeartbeats 8000000 in
theorem s_Mo_isLetter_0 (d : Nat) (a0 : Int) (m : zM) (h : zH) (Q : zQ) (H :
  (a0 < 97 →
    ((0 : Int) = 0 ∨ (0 : Int) = 1) ∧ Q (some (.inl (0 : Int))) m h) ∧
  (¬ (a0 < 97) →
    ((122 : Int) < a0 →
      ((0 : Int) = 0 ∨ (0 : Int) = 1) ∧ Q (some (.inl (0 : Int))) m h) ∧
    (¬ ((122 : Int) < a0) →
      ((1 : Int) = 0 ∨ (1 : Int) = 1) ∧ Q (some (.inl (1 : Int))) m h))) : q_Mo_isLetter_0 d a0 m h Q := zvc_ok zc_Mo_isLetter zm_Mo_isLetter 11 (fun _ => rfl) H
theorem e_Mo_isLetter (d : Nat) (a0 : Int) (m : zM) (h : zH) (Q : zQ) (H : q_Mo_isLetter_0 d a0 m h Q) : zcal WP (d + 1) n_Mo_isLetter [.inl a0] m h Q := zcal_mk rfl H
def zm_Mo_more : Nat → Option (List Bool) := fun pc => none
abbrev q_Mo_more_0 (d : Nat) (a0 a2 : Int) (m : zM) (h : zH) (Q : zQ) : Prop := WP d n_Mo_more 0 [some (.inr (.inl a0)), none, some (.inl a2)] [] m h Q
set_option maxRecDepth 100000 in
set_option maxHeartbeats 8000000 in
theorem s_Mo_more_0 (d : Nat) (a0 a2 : Int) (m : zM) (h : zH) (Q : zQ) (H :
  (a2 ≠ 0 →
    Q (some (.inr (.inl (w64 ((w64 (27 * a0)) + (w32 ((w32 (a2 - 97)) + 1))))))) m h) ∧
  (¬ (a2 ≠ 0) →
    Q (some (.inr (.inl a0))) m h)) : q_Mo_more_0 d a0 a2 m h Q := zvc_ok zc_Mo_more zm_Mo_more 16 (fun _ => rfl) H
theorem e_Mo_more (d : Nat) (a0 a2 : Int) (m : zM) (h : zH) (Q : zQ) (H : q_Mo_more_0 d a0 a2 m h Q) : zcal WP (d + 1) n_Mo_more [.inr (.inl a0), .inl a2] m h Q := zcal_mk rfl H
def zm_Mo_word : Nat → Option (List Bool) := fun pc => none
abbrev q_Mo_word_0 (d : Nat) (a0 a1 a2 a3 a4 a5 a6 : Int) (m : zM) (h : zH) (Q : zQ) : Prop := WP d n_Mo_word 0 [some (.inl a0), some (.inl a1), some (.inl a2), some (.inl a3), some (.inl a4), some (.inl a5), some (.inl a6)] [] m h Q
set_option maxRecDepth 100000 in
set_option maxHeartbeats 8000000 in
theorem s_Mo_word_0 (d : Nat) (a0 a1 a2 a3 a4 a5 a6 : Int) (m : zM) (h : zH) (Q : zQ) (H :
  zcal WP d n_Mo_more [.inr (.inl 0), .inl a0] m h (zk2 fun r1 m1 h1 =>
  zcal WP d n_Mo_more [.inr (.inl r1), .inl a1] m1 h1 (zk2 fun r2 m2 h2 =>
  zcal WP d n_Mo_more [.inr (.inl r2), .inl a2] m2 h2 (zk2 fun r3 m3 h3 =>
  zcal WP d n_Mo_more [.inr (.inl r3), .inl a3] m3 h3 (zk2 fun r4 m4 h4 =>
  zcal WP d n_Mo_more [.inr (.inl r4), .inl a4] m4 h4 (zk2 fun r5 m5 h5 =>
  zcal WP d n_Mo_more [.inr (.inl r5), .inl a5] m5 h5 (zk2 fun r6 m6 h6 =>
  zcal WP d n_Mo_more [.inr (.inl r6), .inl a6] m6 h6 (zk2 fun r7 m7 h7 =>
  Q (some (.inr (.inl r7))) m7 h7)))))))) : q_Mo_word_0 d a0 a1 a2 a3 a4 a5 a6 m h Q := zvc_ok zc_Mo_word zm_Mo_word 17 (fun _ => rfl) H
theorem e_Mo_word (d : Nat) (a0 a1 a2 a3 a4 a5 a6 : Int) (m : zM) (h : zH) (Q : zQ) (H : q_Mo_word_0 d a0 a1 a2 a3 a4 a5 a6 m h Q) : zcal WP (d + 1) n_Mo_word [.inl a0, .inl a1, .inl a2, .inl a3, .inl a4, .inl a5, .inl a6] m h Q := zcal_mk rfl H
def zm_Mo_token : Nat → Option (List Bool) := fun pc => none
abbrev q_Mo_token_0 (d : Nat) (a0 a1 a2 a3 a4 : Int) (m : zM) (h : zH) (Q : zQ) : Prop := WP d n_Mo_token 0 [some (.inr (.inr a0)), some (.inl a1), some (.inl a2), some (.inl a3), some (.inr (.inl a4)), none] [] m h Q
set_option maxRecDepth 100000 in
set_option maxHeartbeats 8000000 in
theorem s_Mo_token_0 (d : Nat) (a0 a1 a2 a3 a4 : Int) (m : zM) (h : zH) (Q : zQ) (H :
  kd h a0 = 13 ∧ kd h a0 = 13 ∧ kd h (m a0 5) = 101 ∧ 0 < (m a0 5) ∧ (0 : Int) ≤ (m a0 10) ∧ (m a0 10) < ln h (m a0 5) ∧ ∀ m1, m1 = zwr m (m a0 5) (m a0 10) a1 →
  kd h a0 = 13 ∧ kd h a0 = 13 ∧ kd h (m1 a0 6) = 101 ∧ 0 < (m1 a0 6) ∧ (0 : Int) ≤ (m1 a0 10) ∧ (m1 a0 10) < ln h (m1 a0 6) ∧ ∀ m2, m2 = zwr m1 (m1 a0 6) (m1 a0 10) a2 →
  kd h a0 = 13 ∧ kd h a0 = 13 ∧ kd h (m2 a0 7) = 101 ∧ 0 < (m2 a0 7) ∧ (0 : Int) ≤ (m2 a0 10) ∧ (m2 a0 10) < ln h (m2 a0 7) ∧ ∀ m3, m3 = zwr m2 (m2 a0 7) (m2 a0 10) a3 →
  kd h a0 = 13 ∧ kd h a0 = 13 ∧ kd h (m3 a0 8) = 104 ∧ 0 < (m3 a0 8) ∧ (0 : Int) ≤ (m3 a0 10) ∧ (m3 a0 10) < ln h (m3 a0 8) ∧ ∀ m4, m4 = zwr m3 (m3 a0 8) (m3 a0 10) a4 →
  kd h a0 = 13 ∧ kd h a0 = 13 ∧ 0 < a0 ∧ ∀ m5, m5 = zwr m4 a0 10 (w32 ((m4 a0 10) + 1)) →
  Q none m5 h) : q_Mo_token_0 d a0 a1 a2 a3 a4 m h Q := zvc_ok zc_Mo_token zm_Mo_token 32 (fun _ => rfl) H
theorem e_Mo_token (d : Nat) (a0 a1 a2 a3 a4 : Int) (m : zM) (h : zH) (Q : zQ) (H : q_Mo_token_0 d a0 a1 a2 a3 a4 m h Q) : zcal WP (d + 1) n_Mo_token [.inr (.inr a0), .inl a1, .inl a2, .inl a3, .inr (.inl a4)] m h Q := zcal_mk rfl H
def zm_Mo_cut : Nat → Option (List Bool) := fun pc => bif Nat.beq pc 7 then some [true, true, false, false, false, false, false, false] else (bif Nat.beq pc 85 then some [true, true, false, true, true, false, false, false] else (bif Nat.beq pc 146 then some [true, true, false, true, true, false, true, true] else (bif Nat.beq pc 179 then some [true, true, false, true, true, false, true, false] else (bif Nat.beq pc 208 then some [true, true, false, true, true, false, false, false] else (bif Nat.beq pc 261 then some [true, true, false, true, true, false, false, false] else (none))))))
abbrev q_Mo_cut_0 (d : Nat) (a0 : Int) (m : zM) (h : zH) (Q : zQ) : Prop := WP d n_Mo_cut 0 [some (.inr (.inr a0)), none, none, none, none, none, none, none] [] m h Q
abbrev q_Mo_cut_7 (d : Nat) (a0 a1 : Int) (m : zM) (h : zH) (Q : zQ) : Prop := WP d n_Mo_cut 7 [some (.inr (.inr a0)), some (.inl a1), none, none, none, none, none, none] [] m h Q
abbrev q_Mo_cut_85 (d : Nat) (a0 a1 a3 a4 : Int) (m : zM) (h : zH) (Q : zQ) : Prop := WP d n_Mo_cut 85 [some (.inr (.inr a0)), some (.inl a1), none, some (.inl a3), some (.inr (.inl a4)), none, none, none] [] m h Q
abbrev q_Mo_cut_146 (d : Nat) (a0 a1 a3 a4 a6 a7 : Int) (m : zM) (h : zH) (Q : zQ) : Prop := WP d n_Mo_cut 146 [some (.inr (.inr a0)), some (.inl a1), none, some (.inl a3), some (.inr (.inl a4)), none, some (.inl a6), some (.inl a7)] [] m h Q
abbrev q_Mo_cut_179 (d : Nat) (a0 a1 a3 a4 a6 : Int) (m : zM) (h : zH) (Q : zQ) : Prop := WP d n_Mo_cut 179 [some (.inr (.inr a0)), some (.inl a1), none, some (.inl a3), some (.inr (.inl a4)), none, some (.inl a6), none] [] m h Q
abbrev q_Mo_cut_208 (d : Nat) (a0 a1 a3 a4 : Int) (m : zM) (h : zH) (Q : zQ) : Prop := WP d n_Mo_cut 208 [some (.inr (.inr a0)), some (.inl a1), none, some (.inl a3), some (.inl a4), none, none, none] [] m h Q
abbrev q_Mo_cut_261 (d : Nat) (a0 a1 a3 a4 s0 s1 : Int) (m : zM) (h : zH) (Q : zQ) : Prop := WP d n_Mo_cut 261 [some (.inr (.inr a0)), some (.inl a1), none, some (.inl a3), some (.inl a4), none, none, none] [.inl s0, .inr (.inr s1)] m h Q
set_option maxRecDepth 100000 in
set_option maxHeartbeats 8000000 in
theorem s_Mo_cut_0 (d : Nat) (a0 : Int) (m : zM) (h : zH) (Q : zQ) (H :
  kd h a0 = 13 ∧ 0 < a0 ∧ ∀ m1, m1 = zwr m a0 10 0 →
  q_Mo_cut_7 d a0 0 m1 h Q) : q_Mo_cut_0 d a0 m h Q := zvc_ok zc_Mo_cut zm_Mo_cut 167 (fun _ => rfl) H
set_option maxRecDepth 100000 in
set_option maxHeartbeats 8000000 in
theorem s_Mo_cut_7 (d : Nat) (a0 a1 : Int) (m : zM) (h : zH) (Q : zQ) (H :
  kd h a0 = 13 ∧ ((400 : Int) < (m a0 10) →
    Q none m h) ∧
  (¬ ((400 : Int) < (m a0 10)) →
    kd h a0 = 13 ∧ zcal WP d n_Mo_at [.inr (.inr a0), .inl a1] m h (zk1 fun r1 m1 h1 =>
    kd h1 a0 = 13 ∧ (a1 < (m1 a0 4) →
      (r1 = 9 →
        q_Mo_cut_7 d a0 (w32 (a1 + 1)) m1 h1 Q) ∧
      (¬ (r1 = 9) →
        (r1 = 10 →
          q_Mo_cut_7 d a0 (w32 (a1 + 1)) m1 h1 Q) ∧
        (¬ (r1 = 10) →
          (r1 = 13 →
            q_Mo_cut_7 d a0 (w32 (a1 + 1)) m1 h1 Q) ∧
          (¬ (r1 = 13) →
            (r1 ≠ 32 →
              zcal WP d n_Mo_isLetter [.inl r1] m1 h1 (zk1 fun r2 m2 h2 =>
              (r2 = 0 →
                zcal WP d n_Mo_isDigit [.inl r1] m2 h2 (zk1 fun r3 m3 h3 =>
                (r3 = 0 →
                  kd h3 a0 = 13 ∧ zcal WP d n_Mo_at [.inr (.inr a0), .inl (w32 (a1 + 1))] m3 h3 (zk1 fun r4 m4 h4 =>
                  kd h4 a0 = 13 ∧ zcal WP d n_Mo_sign [.inr (.inr a0), .inl a1, .inl r1, .inl r4] m4 h4 (zk1 fun r5 m5 h5 =>
                  q_Mo_cut_7 d a0 (w32 (a1 + r5)) m5 h5 Q))) ∧
                (¬ (r3 = 0) →
                  q_Mo_cut_208 d a0 a1 0 0 m3 h3 Q))) ∧
              (¬ (r2 = 0) →
                q_Mo_cut_85 d a0 a1 0 0 m2 h2 Q))) ∧
            (¬ (r1 ≠ 32) →
              q_Mo_cut_7 d a0 (w32 (a1 + 1)) m1 h1 Q))))) ∧
    (¬ (a1 < (m1 a0 4)) →
      kd h1 a0 = 13 ∧ kd h1 a0 = 13 ∧ zcal WP d n_Mo_token [.inr (.inr a0), .inl 0, .inl (m1 a0 4), .inl 0, .inr (.inl 0)] m1 h1 (zk0 fun m2 h2 =>
      Q none m2 h2))))) : q_Mo_cut_7 d a0 a1 m h Q := zvc_ok zc_Mo_cut zm_Mo_cut 167 (fun _ => rfl) H
set_option maxRecDepth 100000 in
set_option maxHeartbeats 8000000 in
theorem s_Mo_cut_85 (d : Nat) (a0 a1 a3 a4 : Int) (m : zM) (h : zH) (Q : zQ) (H :
  kd h a0 = 13 ∧ zcal WP d n_Mo_at [.inr (.inr a0), .inl (w32 (a1 + a3))] m h (zk1 fun r1 m1 h1 =>
  zcal WP d n_Mo_isLetter [.inl r1] m1 h1 (zk1 fun r2 m2 h2 =>
  (r2 = 0 →
    (a3 ≤ 8 →
      ((7 : Int) < a3 →
        q_Mo_cut_179 d a0 a1 a3 a4 1 m2 h2 Q) ∧
      (¬ ((7 : Int) < a3) →
        q_Mo_cut_146 d a0 a1 a3 a4 1 0 m2 h2 Q)) ∧
    (¬ (a3 ≤ 8) →
      ((7 : Int) < a3 →
        q_Mo_cut_179 d a0 a1 a3 a4 3 m2 h2 Q) ∧
      (¬ ((7 : Int) < a3) →
        q_Mo_cut_146 d a0 a1 a3 a4 3 0 m2 h2 Q))) ∧
  (¬ (r2 = 0) →
    ((8 : Int) ≤ a3 →
      q_Mo_cut_85 d a0 a1 (w32 (a3 + 1)) a4 m2 h2 Q) ∧
    (¬ ((8 : Int) ≤ a3) →
      kd h2 a0 = 13 ∧ zcal WP d n_Mo_at [.inr (.inr a0), .inl (w32 (a1 + a3))] m2 h2 (zk1 fun r3 m3 h3 =>
      zcal WP d n_Mo_more [.inr (.inl a4), .inl r3] m3 h3 (zk2 fun r4 m4 h4 =>
      q_Mo_cut_85 d a0 a1 (w32 (a3 + 1)) r4 m4 h4 Q))))))) : q_Mo_cut_85 d a0 a1 a3 a4 m h Q := zvc_ok zc_Mo_cut zm_Mo_cut 167 (fun _ => rfl) H
set_option maxRecDepth 100000 in
set_option maxHeartbeats 8000000 in
theorem s_Mo_cut_146 (d : Nat) (a0 a1 a3 a4 a6 a7 : Int) (m : zM) (h : zH) (Q : zQ) (H :
  ((23 : Int) ≤ a7 →
    q_Mo_cut_179 d a0 a1 a3 a4 a6 m h Q) ∧
  (¬ ((23 : Int) ≤ a7) →
    kd h a0 = 13 ∧ kd h (m a0 9) = 104 ∧ (0 : Int) ≤ a7 ∧ a7 < ln h (m a0 9) ∧ ((zlcmp (m (m a0 9) a7) a4) ≠ 0 →
      q_Mo_cut_146 d a0 a1 a3 a4 a6 (w32 (a7 + 1)) m h Q) ∧
    (¬ ((zlcmp (m (m a0 9) a7) a4) ≠ 0) →
      q_Mo_cut_146 d a0 a1 a3 a4 (w32 (20 + a7)) (w32 (a7 + 1)) m h Q))) : q_Mo_cut_146 d a0 a1 a3 a4 a6 a7 m h Q := zvc_ok zc_Mo_cut zm_Mo_cut 167 (fun _ => rfl) H
set_option maxRecDepth 100000 in
set_option maxHeartbeats 8000000 in
theorem s_Mo_cut_179 (d : Nat) (a0 a1 a3 a4 a6 : Int) (m : zM) (h : zH) (Q : zQ) (H :
  kd h a0 = 13 ∧ zcal WP d n_Mo_token [.inr (.inr a0), .inl a6, .inl a1, .inl 0, .inr (.inl a4)] m h (zk0 fun m1 h1 =>
  q_Mo_cut_7 d a0 (w32 (a1 + a3)) m1 h1 Q)) : q_Mo_cut_179 d a0 a1 a3 a4 a6 m h Q := zvc_ok zc_Mo_cut zm_Mo_cut 167 (fun _ => rfl) H
set_option maxRecDepth 100000 in
set_option maxHeartbeats 8000000 in
theorem s_Mo_cut_208 (d : Nat) (a0 a1 a3 a4 : Int) (m : zM) (h : zH) (Q : zQ) (H :
  kd h a0 = 13 ∧ zcal WP d n_Mo_at [.inr (.inr a0), .inl (w32 (a1 + a3))] m h (zk1 fun r1 m1 h1 =>
  zcal WP d n_Mo_isDigit [.inl r1] m1 h1 (zk1 fun r2 m2 h2 =>
  (r2 = 0 →
    (a3 ≤ 4 →
      q_Mo_cut_261 d a0 a1 a3 a4 2 a0 m2 h2 Q) ∧
    (¬ (a3 ≤ 4) →
      q_Mo_cut_261 d a0 a1 a3 a4 3 a0 m2 h2 Q)) ∧
  (¬ (r2 = 0) →
    ((4 : Int) ≤ a3 →
      q_Mo_cut_208 d a0 a1 (w32 (a3 + 1)) a4 m2 h2 Q) ∧
    (¬ ((4 : Int) ≤ a3) →
      kd h2 a0 = 13 ∧ zcal WP d n_Mo_at [.inr (.inr a0), .inl (w32 (a1 + a3))] m2 h2 (zk1 fun r3 m3 h3 =>
      q_Mo_cut_208 d a0 a1 (w32 (a3 + 1)) (w32 ((w32 ((w32 (10 * a4)) + r3)) - 48)) m3 h3 Q)))))) : q_Mo_cut_208 d a0 a1 a3 a4 m h Q := zvc_ok zc_Mo_cut zm_Mo_cut 167 (fun _ => rfl) H
set_option maxRecDepth 100000 in
set_option maxHeartbeats 8000000 in
theorem s_Mo_cut_261 (d : Nat) (a0 a1 a3 a4 s0 s1 : Int) (m : zM) (h : zH) (Q : zQ) (H :
  kd h s1 = 13 ∧ zcal WP d n_Mo_token [.inr (.inr s1), .inl s0, .inl a1, .inl a4, .inr (.inl 0)] m h (zk0 fun m1 h1 =>
  q_Mo_cut_7 d a0 (w32 (a1 + a3)) m1 h1 Q)) : q_Mo_cut_261 d a0 a1 a3 a4 s0 s1 m h Q := zvc_ok zc_Mo_cut zm_Mo_cut 167 (fun _ => rfl) H
theorem e_Mo_cut (d : Nat) (a0 : Int) (m : zM) (h : zH) (Q : zQ) (H : q_Mo_cut_0 d a0 m h Q) : zcal WP (d + 1) n_Mo_cut [.inr (.inr a0)] m h Q := zcal_mk rfl H
def zm_Mo_sign : Nat → Option (List Bool) := fun pc => bif Nat.beq pc 44 then some [true, true, true, false, false, false] else (bif Nat.beq pc 161 then some [true, true, false, false, true, true] else (none))
abbrev q_Mo_sign_0 (d : Nat) (a0 a1 a2 a3 : Int) (m : zM) (h : zH) (Q : zQ) : Prop := WP d n_Mo_sign 0 [some (.inr (.inr a0)), some (.inl a1), some (.inl a2), some (.inl a3), none, none] [] m h Q
abbrev q_Mo_sign_44 (d : Nat) (a0 a1 a2 s0 : Int) (m : zM) (h : zH) (Q : zQ) : Prop := WP d n_Mo_sign 44 [some (.inr (.inr a0)), some (.inl a1), some (.inl a2), none, none, none] [.inl s0] m h Q
abbrev q_Mo_sign_161 (d : Nat) (a0 a1 a4 a5 : Int) (m : zM) (h : zH) (Q : zQ) : Prop := WP d n_Mo_sign 161 [some (.inr (.inr a0)), some (.inl a1), none, none, some (.inl a4), some (.inl a5)] [] m h Q
set_option maxRecDepth 100000 in
set_option maxHeartbeats 8000000 in
theorem s_Mo_sign_0 (d : Nat) (a0 a1 a2 a3 : Int) (m : zM) (h : zH) (Q : zQ) (H :
  (a3 = 61 →
    (a2 ≠ 61 →
      (a2 ≠ 33 →
        (a2 ≠ 60 →
          q_Mo_sign_44 d a0 a1 a2 0 m h Q) ∧
        (¬ (a2 ≠ 60) →
          q_Mo_sign_44 d a0 a1 a2 14 m h Q)) ∧
      (¬ (a2 ≠ 33) →
        q_Mo_sign_44 d a0 a1 a2 12 m h Q)) ∧
    (¬ (a2 ≠ 61) →
      q_Mo_sign_44 d a0 a1 a2 11 m h Q)) ∧
  (¬ (a3 = 61) →
    q_Mo_sign_44 d a0 a1 a2 0 m h Q)) : q_Mo_sign_0 d a0 a1 a2 a3 m h Q := zvc_ok zc_Mo_sign zm_Mo_sign 89 (fun _ => rfl) H
set_option maxRecDepth 100000 in
set_option maxHeartbeats 8000000 in
theorem s_Mo_sign_44 (d : Nat) (a0 a1 a2 s0 : Int) (m : zM) (h : zH) (Q : zQ) (H :
  (s0 ≤ 0 →
    (a2 ≠ 59 →
      (a2 ≠ 40 →
        (a2 ≠ 41 →
          (a2 ≠ 43 →
            (a2 ≠ 45 →
              (a2 ≠ 42 →
                (a2 ≠ 60 →
                  (a2 ≠ 47 →
                    q_Mo_sign_161 d a0 a1 s0 3 m h Q) ∧
                  (¬ (a2 ≠ 47) →
                    q_Mo_sign_161 d a0 a1 s0 15 m h Q)) ∧
                (¬ (a2 ≠ 60) →
                  q_Mo_sign_161 d a0 a1 s0 13 m h Q)) ∧
              (¬ (a2 ≠ 42) →
                q_Mo_sign_161 d a0 a1 s0 10 m h Q)) ∧
            (¬ (a2 ≠ 45) →
              q_Mo_sign_161 d a0 a1 s0 9 m h Q)) ∧
          (¬ (a2 ≠ 43) →
            q_Mo_sign_161 d a0 a1 s0 8 m h Q)) ∧
        (¬ (a2 ≠ 41) →
          q_Mo_sign_161 d a0 a1 s0 7 m h Q)) ∧
      (¬ (a2 ≠ 40) →
        q_Mo_sign_161 d a0 a1 s0 6 m h Q)) ∧
    (¬ (a2 ≠ 59) →
      q_Mo_sign_161 d a0 a1 s0 4 m h Q)) ∧
  (¬ (s0 ≤ 0) →
    q_Mo_sign_161 d a0 a1 s0 s0 m h Q)) : q_Mo_sign_44 d a0 a1 a2 s0 m h Q := zvc_ok zc_Mo_sign zm_Mo_sign 89 (fun _ => rfl) H
set_option maxRecDepth 100000 in
set_option maxHeartbeats 8000000 in
theorem s_Mo_sign_161 (d : Nat) (a0 a1 a4 a5 : Int) (m : zM) (h : zH) (Q : zQ) (H :
  kd h a0 = 13 ∧ zcal WP d n_Mo_token [.inr (.inr a0), .inl a5, .inl a1, .inl 0, .inr (.inl 0)] m h (zk0 fun m1 h1 =>
  (a4 ≤ 0 →
    Q (some (.inl (1 : Int))) m1 h1) ∧
  (¬ (a4 ≤ 0) →
    Q (some (.inl (2 : Int))) m1 h1))) : q_Mo_sign_161 d a0 a1 a4 a5 m h Q := zvc_ok zc_Mo_sign zm_Mo_sign 89 (fun _ => rfl) H
theorem e_Mo_sign (d : Nat) (a0 a1 a2 a3 : Int) (m : zM) (h : zH) (Q : zQ) (H : q_Mo_sign_0 d a0 a1 a2 a3 m h Q) : zcal WP (d + 1) n_Mo_sign [.inr (.inr a0), .inl a1, .inl a2, .inl a3] m h Q := zcal_mk rfl H
def zm_Mo_is : Nat → Option (List Bool) := fun pc => none
abbrev q_Mo_is_0 (d : Nat) (a0 a1 : Int) (m : zM) (h : zH) (Q : zQ) : Prop := WP d n_Mo_is 0 [some (.inr (.inr a0)), some (.inl a1)] [] m h Q
set_option maxRecDepth 100000 in
set_option maxHeartbeats 8000000 in
theorem s_Mo_is_0 (d : Nat) (a0 a1 : Int) (m : zM) (h : zH) (Q : zQ) (H :
  kd h a0 = 13 ∧ ((m a0 13) ≠ 0 →
    ((0 : Int) = 0 ∨ (0 : Int) = 1) ∧ Q (some (.inl (0 : Int))) m h) ∧
  (¬ ((m a0 13) ≠ 0) →
    kd h a0 = 13 ∧ kd h a0 = 13 ∧ kd h (m a0 5) = 101 ∧ (0 : Int) ≤ (m a0 11) ∧ (m a0 11) < ln h (m a0 5) ∧ ((m (m a0 5) (m a0 11)) ≠ a1 →
      ((0 : Int) = 0 ∨ (0 : Int) = 1) ∧ Q (some (.inl (0 : Int))) m h) ∧
    (¬ ((m (m a0 5) (m a0 11)) ≠ a1) →
      ((1 : Int) = 0 ∨ (1 : Int) = 1) ∧ Q (some (.inl (1 : Int))) m h))) : q_Mo_is_0 d a0 a1 m h Q := zvc_ok zc_Mo_is zm_Mo_is 15 (fun _ => rfl) H
theorem e_Mo_is (d : Nat) (a0 a1 : Int) (m : zM) (h : zH) (Q : zQ) (H : q_Mo_is_0 d a0 a1 m h Q) : zcal WP (d + 1) n_Mo_is [.inr (.inr a0), .inl a1] m h Q := zcal_mk rfl H
def zm_Mo_fail : Nat → Option (List Bool) := fun pc => none
abbrev q_Mo_fail_0 (d : Nat) (a0 a1 : Int) (m : zM) (h : zH) (Q : zQ) : Prop := WP d n_Mo_fail 0 [some (.inr (.inr a0)), some (.inl a1)] [] m h Q
set_option maxRecDepth 100000 in
set_option maxHeartbeats 8000000 in
theorem s_Mo_fail_0 (d : Nat) (a0 a1 : Int) (m : zM) (h : zH) (Q : zQ) (H :
  kd h a0 = 13 ∧ ((m a0 13) ≤ 0 →
    kd h a0 = 13 ∧ 0 < a0 ∧ ∀ m1, m1 = zwr m a0 13 a1 →
    kd h a0 = 13 ∧ kd h a0 = 13 ∧ kd h (m1 a0 6) = 101 ∧ (0 : Int) ≤ (m1 a0 11) ∧ (m1 a0 11) < ln h (m1 a0 6) ∧ kd h a0 = 13 ∧ 0 < a0 ∧ ∀ m2, m2 = zwr m1 a0 14 (m1 (m1 a0 6) (m1 a0 11)) →
    Q none m2 h) ∧
  (¬ ((m a0 13) ≤ 0) →
    Q none m h)) : q_Mo_fail_0 d a0 a1 m h Q := zvc_ok zc_Mo_fail zm_Mo_fail 16 (fun _ => rfl) H
theorem e_Mo_fail (d : Nat) (a0 a1 : Int) (m : zM) (h : zH) (Q : zQ) (H : q_Mo_fail_0 d a0 a1 m h Q) : zcal WP (d + 1) n_Mo_fail [.inr (.inr a0), .inl a1] m h Q := zcal_mk rfl H
def zm_Mo_wrong : Nat → Option (List Bool) := fun pc => none
abbrev q_Mo_wrong_0 (d : Nat) (a0 a1 a2 : Int) (m : zM) (h : zH) (Q : zQ) : Prop := WP d n_Mo_wrong 0 [some (.inr (.inr a0)), some (.inl a1), some (.inl a2), none] [] m h Q
set_option maxRecDepth 100000 in
set_option maxHeartbeats 8000000 in
theorem s_Mo_wrong_0 (d : Nat) (a0 a1 a2 : Int) (m : zM) (h : zH) (Q : zQ) (H :
  kd h a0 = 13 ∧ kd h (m a0 6) = 101 ∧ (0 : Int) ≤ a2 ∧ a2 < ln h (m a0 6) ∧ kd h a0 = 13 ∧ ((0 : Int) < (m a0 13) →
    Q none m h) ∧
  (¬ ((0 : Int) < (m a0 13)) →
    kd h a0 = 13 ∧ ((m a0 15) = 0 →
      kd h a0 = 13 ∧ 0 < a0 ∧ ∀ m1, m1 = zwr m a0 15 a1 →
      kd h a0 = 13 ∧ 0 < a0 ∧ ∀ m2, m2 = zwr m1 a0 16 (m (m a0 6) a2) →
      Q none m2 h) ∧
    (¬ ((m a0 15) = 0) →
      kd h a0 = 13 ∧ ((m a0 16) < (m (m a0 6) a2) →
        Q none m h) ∧
      (¬ ((m a0 16) < (m (m a0 6) a2)) →
        kd h a0 = 13 ∧ ((m (m a0 6) a2) ≠ (m a0 16) →
          kd h a0 = 13 ∧ 0 < a0 ∧ ∀ m1, m1 = zwr m a0 15 a1 →
          kd h a0 = 13 ∧ 0 < a0 ∧ ∀ m2, m2 = zwr m1 a0 16 (m (m a0 6) a2) →
          Q none m2 h) ∧
        (¬ ((m (m a0 6) a2) ≠ (m a0 16)) →
          kd h a0 = 13 ∧ (a1 < (m a0 15) →
            kd h a0 = 13 ∧ 0 < a0 ∧ ∀ m1, m1 = zwr m a0 15 a1 →
            kd h a0 = 13 ∧ 0 < a0 ∧ ∀ m2, m2 = zwr m1 a0 16 (m (m a0 6) a2) →
            Q none m2 h) ∧
          (¬ (a1 < (m a0 15)) →
            Q none m h)))))) : q_Mo_wrong_0 d a0 a1 a2 m h Q := zvc_ok zc_Mo_wrong zm_Mo_wrong 32 (fun _ => rfl) H
theorem e_Mo_wrong (d : Nat) (a0 a1 a2 : Int) (m : zM) (h : zH) (Q : zQ) (H : q_Mo_wrong_0 d a0 a1 a2 m h Q) : zcal WP (d + 1) n_Mo_wrong [.inr (.inr a0), .inl a1, .inl a2] m h Q := zcal_mk rfl H
def zm_Mo_next : Nat → Option (List Bool) := fun pc => none
abbrev q_Mo_next_0 (d : Nat) (a0 : Int) (m : zM) (h : zH) (Q : zQ) : Prop := WP d n_Mo_next 0 [some (.inr (.inr a0))] [] m h Q
set_option maxRecDepth 100000 in
set_option maxHeartbeats 8000000 in
theorem s_Mo_next_0 (d : Nat) (a0 : Int) (m : zM) (h : zH) (Q : zQ) (H :
  kd h a0 = 13 ∧ ((m a0 11) ≠ 400 →
    kd h a0 = 13 ∧ kd h a0 = 13 ∧ 0 < a0 ∧ ∀ m1, m1 = zwr m a0 11 (w32 ((m a0 11) + 1)) →
    Q none m1 h) ∧
  (¬ ((m a0 11) ≠ 400) →
    kd h a0 = 13 ∧ zcal WP d n_Mo_fail [.inr (.inr a0), .inl 2] m h (zk0 fun m1 h1 =>
    Q none m1 h1))) : q_Mo_next_0 d a0 m h Q := zvc_ok zc_Mo_next zm_Mo_next 16 (fun _ => rfl) H
theorem e_Mo_next (d : Nat) (a0 : Int) (m : zM) (h : zH) (Q : zQ) (H : q_Mo_next_0 d a0 m h Q) : zcal WP (d + 1) n_Mo_next [.inr (.inr a0)] m h Q := zcal_mk rfl H
def zm_Mo_must : Nat → Option (List Bool) := fun pc => none
abbrev q_Mo_must_0 (d : Nat) (a0 a1 : Int) (m : zM) (h : zH) (Q : zQ) : Prop := WP d n_Mo_must 0 [some (.inr (.inr a0)), some (.inl a1)] [] m h Q
set_option maxRecDepth 100000 in
set_option maxHeartbeats 8000000 in
theorem s_Mo_must_0 (d : Nat) (a0 a1 : Int) (m : zM) (h : zH) (Q : zQ) (H :
  kd h a0 = 13 ∧ zcal WP d n_Mo_is [.inr (.inr a0), .inl a1] m h (zk1 fun r1 m1 h1 =>
  (r1 = 0 →
    kd h1 a0 = 13 ∧ zcal WP d n_Mo_fail [.inr (.inr a0), .inl 1] m1 h1 (zk0 fun m2 h2 =>
    Q none m2 h2)) ∧
  (¬ (r1 = 0) →
    kd h1 a0 = 13 ∧ zcal WP d n_Mo_next [.inr (.inr a0)] m1 h1 (zk0 fun m2 h2 =>
    Q none m2 h2)))) : q_Mo_must_0 d a0 a1 m h Q := zvc_ok zc_Mo_must zm_Mo_must 12 (fun _ => rfl) H
theorem e_Mo_must (d : Nat) (a0 a1 : Int) (m : zM) (h : zH) (Q : zQ) (H : q_Mo_must_0 d a0 a1 m h Q) : zcal WP (d + 1) n_Mo_must [.inr (.inr a0), .inl a1] m h Q := zcal_mk rfl H
def zm_Mo_read : Nat → Option (List Bool) := fun pc => bif Nat.beq pc 22 then some [true, true, false] else (bif Nat.beq pc 160 then some [true, true, false] else (bif Nat.beq pc 185 then some [true, false, true] else (bif Nat.beq pc 200 then some [true, false, false] else (bif Nat.beq pc 222 then some [true, false, false] else (bif Nat.beq pc 252 then some [true, false, false] else (none))))))
abbrev q_Mo_read_0 (d : Nat) (a0 : Int) (m : zM) (h : zH) (Q : zQ) : Prop := WP d n_Mo_read 0 [some (.inr (.inr a0)), none, none] [] m h Q
abbrev q_Mo_read_22 (d : Nat) (a0 a1 : Int) (m : zM) (h : zH) (Q : zQ) : Prop := WP d n_Mo_read 22 [some (.inr (.inr a0)), some (.inl a1), none] [] m h Q
abbrev q_Mo_read_160 (d : Nat) (a0 a1 s0 : Int) (m : zM) (h : zH) (Q : zQ) : Prop := WP d n_Mo_read 160 [some (.inr (.inr a0)), some (.inl a1), none] [.inl s0] m h Q
abbrev q_Mo_read_185 (d : Nat) (a0 a2 : Int) (m : zM) (h : zH) (Q : zQ) : Prop := WP d n_Mo_read 185 [some (.inr (.inr a0)), none, some (.inl a2)] [] m h Q
abbrev q_Mo_read_200 (d : Nat) (a0 : Int) (m : zM) (h : zH) (Q : zQ) : Prop := WP d n_Mo_read 200 [some (.inr (.inr a0)), none, none] [] m h Q
abbrev q_Mo_read_222 (d : Nat) (a0 : Int) (m : zM) (h : zH) (Q : zQ) : Prop := WP d n_Mo_read 222 [some (.inr (.inr a0)), none, none] [] m h Q
abbrev q_Mo_read_252 (d : Nat) (a0 s0 s1 : Int) (m : zM) (h : zH) (Q : zQ) : Prop := WP d n_Mo_read 252 [some (.inr (.inr a0)), none, none] [.inl s0, .inr (.inr s1)] m h Q
set_option maxRecDepth 100000 in
set_option maxHeartbeats 8000000 in
theorem s_Mo_read_0 (d : Nat) (a0 : Int) (m : zM) (h : zH) (Q : zQ) (H :
  kd h a0 = 13 ∧ ((m a0 18) ≠ 6 →
    kd h a0 = 13 ∧ kd h a0 = 13 ∧ 0 < a0 ∧ ∀ m1, m1 = zwr m a0 4 (m a0 2) →
    q_Mo_read_22 d a0 0 m1 h Q) ∧
  (¬ ((m a0 18) ≠ 6) →
    Q (some (.inl ((-2)))) m h)) : q_Mo_read_0 d a0 m h Q := zvc_ok zc_Mo_read zm_Mo_read 158 (fun _ => rfl) H
set_option maxRecDepth 100000 in
set_option maxHeartbeats 8000000 in
theorem s_Mo_read_22 (d : Nat) (a0 a1 : Int) (m : zM) (h : zH) (Q : zQ) (H :
  kd h a0 = 13 ∧ ((m a0 4) ≤ a1 →
    kd h a0 = 13 ∧ 0 < a0 ∧ ∀ m1, m1 = zwr m a0 2 0 →
    kd h a0 = 13 ∧ zcal WP d n_Mo_cut [.inr (.inr a0)] m1 h (zk0 fun m2 h2 =>
    kd h2 a0 = 13 ∧ 0 < a0 ∧ ∀ m3, m3 = zwr m2 a0 11 0 →
    kd h2 a0 = 13 ∧ 0 < a0 ∧ ∀ m4, m4 = zwr m3 a0 12 0 →
    kd h2 a0 = 13 ∧ 0 < a0 ∧ ∀ m5, m5 = zwr m4 a0 13 0 →
    kd h2 a0 = 13 ∧ 0 < a0 ∧ ∀ m6, m6 = zwr m5 a0 15 0 →
    kd h2 a0 = 13 ∧ kd h2 a0 = 13 ∧ kd h2 (m6 a0 19) = 101 ∧ 0 < (m6 a0 19) ∧ (0 : Int) ≤ (m6 a0 18) ∧ (m6 a0 18) < ln h2 (m6 a0 19) ∧ ∀ m7, m7 = zwr m6 (m6 a0 19) (m6 a0 18) 0 →
    kd h2 a0 = 13 ∧ kd h2 a0 = 13 ∧ kd h2 (m7 a0 20) = 101 ∧ 0 < (m7 a0 20) ∧ (0 : Int) ≤ (m7 a0 18) ∧ (m7 a0 18) < ln h2 (m7 a0 20) ∧ ∀ m8, m8 = zwr m7 (m7 a0 20) (m7 a0 18) 0 →
    kd h2 a0 = 13 ∧ kd h2 a0 = 13 ∧ 0 < a0 ∧ ∀ m9, m9 = zwr m8 a0 27 (w32 (140 * (m8 a0 18))) →
    kd h2 a0 = 13 ∧ kd h2 a0 = 13 ∧ 0 < a0 ∧ ∀ m10, m10 = zwr m9 a0 34 (w32 (400 * (m9 a0 18))) →
    kd h2 a0 = 13 ∧ zcal WP d n_Mo_is [.inr (.inr a0), .inl 20] m10 h2 (zk1 fun r11 m11 h11 =>
    (r11 = 0 →
      q_Mo_read_200 d a0 m11 h11 Q) ∧
    (¬ (r11 = 0) →
      kd h11 a0 = 13 ∧ zcal WP d n_Mo_next [.inr (.inr a0)] m11 h11 (zk0 fun m12 h12 =>
      kd h12 a0 = 13 ∧ kd h12 a0 = 13 ∧ zcal WP d n_Mo_is [.inr (.inr a0), .inl 2] m12 h12 (zk1 fun r13 m13 h13 =>
      (r13 = 0 →
        q_Mo_read_160 d a0 (m12 a0 11) 0 m13 h13 Q) ∧
      (¬ (r13 = 0) →
        kd h13 a0 = 13 ∧ kd h13 a0 = 13 ∧ kd h13 (m13 a0 7) = 101 ∧ (0 : Int) ≤ (m13 a0 11) ∧ (m13 a0 11) < ln h13 (m13 a0 7) ∧ q_Mo_read_160 d a0 (m12 a0 11) (m13 (m13 a0 7) (m13 a0 11)) m13 h13 Q))))))) ∧
  (¬ ((m a0 4) ≤ a1) →
    kd h a0 = 13 ∧ kd h a0 = 13 ∧ kd h (m a0 1) = 102 ∧ (0 : Int) ≤ a1 ∧ a1 < ln h (m a0 1) ∧ kd h (m a0 3) = 102 ∧ 0 < (m a0 3) ∧ (0 : Int) ≤ a1 ∧ a1 < ln h (m a0 3) ∧ ∀ m1, m1 = zwr m (m a0 3) a1 (w8 (m (m a0 1) a1)) →
    q_Mo_read_22 d a0 (w32 (a1 + 1)) m1 h Q)) : q_Mo_read_22 d a0 a1 m h Q := zvc_ok zc_Mo_read zm_Mo_read 158 (fun _ => rfl) H
set_option maxRecDepth 100000 in
set_option maxHeartbeats 8000000 in
theorem s_Mo_read_160 (d : Nat) (a0 a1 s0 : Int) (m : zM) (h : zH) (Q : zQ) (H :
  kd h a0 = 13 ∧ zcal WP d n_Mo_must [.inr (.inr a0), .inl 2] m h (zk0 fun m1 h1 =>
  kd h1 a0 = 13 ∧ ((m1 a0 13) ≠ 0 →
    q_Mo_read_185 d a0 s0 m1 h1 Q) ∧
  (¬ ((m1 a0 13) ≠ 0) →
    (s0 < 120 →
      q_Mo_read_185 d a0 s0 m1 h1 Q) ∧
    (¬ (s0 < 120) →
      kd h1 a0 = 13 ∧ zcal WP d n_Mo_wrong [.inr (.inr a0), .inl 5, .inl a1] m1 h1 (zk0 fun m2 h2 =>
      q_Mo_read_185 d a0 s0 m2 h2 Q))))) : q_Mo_read_160 d a0 a1 s0 m h Q := zvc_ok zc_Mo_read zm_Mo_read 158 (fun _ => rfl) H
set_option maxRecDepth 100000 in
set_option maxHeartbeats 8000000 in
theorem s_Mo_read_185 (d : Nat) (a0 a2 : Int) (m : zM) (h : zH) (Q : zQ) (H :
  kd h a0 = 13 ∧ kd h a0 = 13 ∧ kd h (m a0 19) = 101 ∧ 0 < (m a0 19) ∧ (0 : Int) ≤ (m a0 18) ∧ (m a0 18) < ln h (m a0 19) ∧ ∀ m1, m1 = zwr m (m a0 19) (m a0 18) a2 →
  kd h a0 = 13 ∧ zcal WP d n_Mo_must [.inr (.inr a0), .inl 4] m1 h (zk0 fun m2 h2 =>
  q_Mo_read_200 d a0 m2 h2 Q)) : q_Mo_read_185 d a0 a2 m h Q := zvc_ok zc_Mo_read zm_Mo_read 158 (fun _ => rfl) H
set_option maxRecDepth 100000 in
set_option maxHeartbeats 8000000 in
theorem s_Mo_read_200 (d : Nat) (a0 : Int) (m : zM) (h : zH) (Q : zQ) (H :
  kd h a0 = 13 ∧ ((m a0 13) ≠ 0 →
    q_Mo_read_222 d a0 m h Q) ∧
  (¬ ((m a0 13) ≠ 0) →
    kd h a0 = 13 ∧ zcal WP d n_Mo_is [.inr (.inr a0), .inl 0] m h (zk1 fun r1 m1 h1 =>
    (r1 ≠ 0 →
      q_Mo_read_222 d a0 m1 h1 Q) ∧
    (¬ (r1 ≠ 0) →
      kd h1 a0 = 13 ∧ zcal WP d n_Mo_tellRule [.inr (.inr a0)] m1 h1 (zk0 fun m2 h2 =>
      q_Mo_read_200 d a0 m2 h2 Q))))) : q_Mo_read_200 d a0 m h Q := zvc_ok zc_Mo_read zm_Mo_read 158 (fun _ => rfl) H
set_option maxRecDepth 100000 in
set_option maxHeartbeats 8000000 in
theorem s_Mo_read_222 (d : Nat) (a0 : Int) (m : zM) (h : zH) (Q : zQ) (H :
  kd h a0 = 13 ∧ ((m a0 13) ≤ 0 →
    kd h a0 = 13 ∧ ((m a0 15) ≤ 0 →
      q_Mo_read_252 d a0 ((-1)) a0 m h Q) ∧
    (¬ ((m a0 15) ≤ 0) →
      kd h a0 = 13 ∧ q_Mo_read_252 d a0 (m a0 16) a0 m h Q)) ∧
  (¬ ((m a0 13) ≤ 0) →
    kd h a0 = 13 ∧ q_Mo_read_252 d a0 (m a0 14) a0 m h Q)) : q_Mo_read_222 d a0 m h Q := zvc_ok zc_Mo_read zm_Mo_read 158 (fun _ => rfl) H
set_option maxRecDepth 100000 in
set_option maxHeartbeats 8000000 in
theorem s_Mo_read_252 (d : Nat) (a0 s0 s1 : Int) (m : zM) (h : zH) (Q : zQ) (H :
  kd h s1 = 13 ∧ 0 < s1 ∧ ∀ m1, m1 = zwr m s1 17 s0 →
  kd h a0 = 13 ∧ ((m1 a0 13) ≤ 0 →
    kd h a0 = 13 ∧ ((m1 a0 15) ≤ 0 →
      kd h a0 = 13 ∧ kd h a0 = 13 ∧ 0 < a0 ∧ ∀ m2, m2 = zwr m1 a0 18 (w32 ((m1 a0 18) + 1)) →
      kd h a0 = 13 ∧ zcal WP d n_Mo_changed [.inr (.inr a0)] m2 h (zk0 fun m3 h3 =>
      Q (some (.inl (0 : Int))) m3 h3)) ∧
    (¬ ((m1 a0 15) ≤ 0) →
      kd h a0 = 13 ∧ Q (some (.inl (m1 a0 15))) m1 h)) ∧
  (¬ ((m1 a0 13) ≤ 0) →
    kd h a0 = 13 ∧ Q (some (.inl (m1 a0 13))) m1 h)) : q_Mo_read_252 d a0 s0 s1 m h Q := zvc_ok zc_Mo_read zm_Mo_read 158 (fun _ => rfl) H
theorem e_Mo_read (d : Nat) (a0 : Int) (m : zM) (h : zH) (Q : zQ) (H : q_Mo_read_0 d a0 m h Q) : zcal WP (d + 1) n_Mo_read [.inr (.inr a0)] m h Q := zcal_mk rfl H
def zm_Mo_place : Nat → Option (List Bool) := fun pc => none
abbrev q_Mo_place_0 (d : Nat) (a0 : Int) (m : zM) (h : zH) (Q : zQ) : Prop := WP d n_Mo_place 0 [some (.inr (.inr a0))] [] m h Q
set_option maxRecDepth 100000 in
set_option maxHeartbeats 8000000 in
theorem s_Mo_place_0 (d : Nat) (a0 : Int) (m : zM) (h : zH) (Q : zQ) (H :
  kd h a0 = 13 ∧ Q (some (.inl (m a0 17))) m h) : q_Mo_place_0 d a0 m h Q := zvc_ok zc_Mo_place zm_Mo_place 4 (fun _ => rfl) H
theorem e_Mo_place (d : Nat) (a0 : Int) (m : zM) (h : zH) (Q : zQ) (H : q_Mo_place_0 d a0 m h Q) : zcal WP (d + 1) n_Mo_place [.inr (.inr a0)] m h Q := zcal_mk rfl H
def zm_Mo_tellRule : Nat → Option (List Bool) := fun pc => bif Nat.beq pc 85 then some [true, false, false, false, false, false] else (bif Nat.beq pc 118 then some [true, true, false, false, false, false] else (bif Nat.beq pc 199 then some [true, true, true, false, false, false] else (bif Nat.beq pc 238 then some [true, true, true, false, false, false] else (bif Nat.beq pc 268 then some [true, false, true, true, false, false] else (bif Nat.beq pc 289 then some [true, false, true, false, true, true] else (bif Nat.beq pc 329 then some [true, false, true, false, false, true] else (bif Nat.beq pc 348 then some [true, false, true, false, false, false] else (none))))))))
abbrev q_Mo_tellRule_0 (d : Nat) (a0 : Int) (m : zM) (h : zH) (Q : zQ) : Prop := WP d n_Mo_tellRule 0 [some (.inr (.inr a0)), none, none, none, none, none] [] m h Q
abbrev q_Mo_tellRule_85 (d : Nat) (a0 s0 : Int) (m : zM) (h : zH) (Q : zQ) : Prop := WP d n_Mo_tellRule 85 [some (.inr (.inr a0)), none, none, none, none, none] [.inl s0] m h Q
abbrev q_Mo_tellRule_118 (d : Nat) (a0 a1 : Int) (m : zM) (h : zH) (Q : zQ) : Prop := WP d n_Mo_tellRule 118 [some (.inr (.inr a0)), some (.inl a1), none, none, none, none] [] m h Q
abbrev q_Mo_tellRule_199 (d : Nat) (a0 a1 a2 : Int) (m : zM) (h : zH) (Q : zQ) : Prop := WP d n_Mo_tellRule 199 [some (.inr (.inr a0)), some (.inl a1), some (.inl a2), none, none, none] [] m h Q
abbrev q_Mo_tellRule_238 (d : Nat) (a0 a1 a2 s0 : Int) (m : zM) (h : zH) (Q : zQ) : Prop := WP d n_Mo_tellRule 238 [some (.inr (.inr a0)), some (.inl a1), some (.inl a2), none, none, none] [.inl s0] m h Q
abbrev q_Mo_tellRule_268 (d : Nat) (a0 a2 a3 : Int) (m : zM) (h : zH) (Q : zQ) : Prop := WP d n_Mo_tellRule 268 [some (.inr (.inr a0)), none, some (.inl a2), some (.inl a3), none, none] [] m h Q
abbrev q_Mo_tellRule_289 (d : Nat) (a0 a2 a4 a5 : Int) (m : zM) (h : zH) (Q : zQ) : Prop := WP d n_Mo_tellRule 289 [some (.inr (.inr a0)), none, some (.inl a2), none, some (.inl a4), some (.inl a5)] [] m h Q
abbrev q_Mo_tellRule_329 (d : Nat) (a0 a2 a5 : Int) (m : zM) (h : zH) (Q : zQ) : Prop := WP d n_Mo_tellRule 329 [some (.inr (.inr a0)), none, some (.inl a2), none, none, some (.inl a5)] [] m h Q
abbrev q_Mo_tellRule_348 (d : Nat) (a0 a2 : Int) (m : zM) (h : zH) (Q : zQ) : Prop := WP d n_Mo_tellRule 348 [some (.inr (.inr a0)), none, some (.inl a2), none, none, none] [] m h Q
set_option maxRecDepth 100000 in
set_option maxHeartbeats 8000000 in
theorem s_Mo_tellRule_0 (d : Nat) (a0 : Int) (m : zM) (h : zH) (Q : zQ) (H :
  kd h a0 = 13 ∧ zcal WP d n_Mo_is [.inr (.inr a0), .inl 27] m h (zk1 fun r1 m1 h1 =>
  (r1 = 0 →
    kd h1 a0 = 13 ∧ kd h1 a0 = 13 ∧ kd h1 (m1 a0 5) = 101 ∧ (0 : Int) ≤ (m1 a0 11) ∧ (m1 a0 11) < ln h1 (m1 a0 5) ∧ ((w32 ((m1 (m1 a0 5) (m1 a0 11)) - 21)) ≠ 0 →
      kd h1 a0 = 13 ∧ zcal WP d n_Mo_is [.inr (.inr a0), .inl 23] m1 h1 (zk1 fun r2 m2 h2 =>
      (r2 = 0 →
        kd h2 a0 = 13 ∧ zcal WP d n_Mo_is [.inr (.inr a0), .inl 24] m2 h2 (zk1 fun r3 m3 h3 =>
        (r3 = 0 →
          kd h3 a0 = 13 ∧ zcal WP d n_Mo_is [.inr (.inr a0), .inl 25] m3 h3 (zk1 fun r4 m4 h4 =>
          (r4 = 0 →
            kd h4 a0 = 13 ∧ zcal WP d n_Mo_is [.inr (.inr a0), .inl 26] m4 h4 (zk1 fun r5 m5 h5 =>
            (r5 = 0 →
              q_Mo_tellRule_85 d a0 ((-1)) m5 h5 Q) ∧
            (¬ (r5 = 0) →
              q_Mo_tellRule_85 d a0 4 m5 h5 Q))) ∧
          (¬ (r4 = 0) →
            q_Mo_tellRule_85 d a0 3 m4 h4 Q))) ∧
        (¬ (r3 = 0) →
          q_Mo_tellRule_85 d a0 2 m3 h3 Q))) ∧
      (¬ (r2 = 0) →
        q_Mo_tellRule_85 d a0 1 m2 h2 Q))) ∧
    (¬ ((w32 ((m1 (m1 a0 5) (m1 a0 11)) - 21)) ≠ 0) →
      q_Mo_tellRule_85 d a0 0 m1 h1 Q)) ∧
  (¬ (r1 = 0) →
    q_Mo_tellRule_85 d a0 5 m1 h1 Q))) : q_Mo_tellRule_0 d a0 m h Q := zvc_ok zc_Mo_tellRule zm_Mo_tellRule 205 (fun _ => rfl) H
set_option maxRecDepth 100000 in
set_option maxHeartbeats 8000000 in
theorem s_Mo_tellRule_85 (d : Nat) (a0 s0 : Int) (m : zM) (h : zH) (Q : zQ) (H :
  (s0 ≠ ((-1)) →
    kd h a0 = 13 ∧ kd h a0 = 13 ∧ kd h (m a0 20) = 101 ∧ (0 : Int) ≤ (m a0 18) ∧ (m a0 18) < ln h (m a0 20) ∧ ((m (m a0 20) (m a0 18)) ≠ 24 →
      q_Mo_tellRule_118 d a0 s0 m h Q) ∧
    (¬ ((m (m a0 20) (m a0 18)) ≠ 24) →
      kd h a0 = 13 ∧ zcal WP d n_Mo_fail [.inr (.inr a0), .inl 2] m h (zk0 fun m1 h1 =>
      q_Mo_tellRule_118 d a0 s0 m1 h1 Q))) ∧
  (¬ (s0 ≠ ((-1))) →
    kd h a0 = 13 ∧ zcal WP d n_Mo_fail [.inr (.inr a0), .inl 1] m h (zk0 fun m1 h1 =>
    q_Mo_tellRule_118 d a0 s0 m1 h1 Q))) : q_Mo_tellRule_85 d a0 s0 m h Q := zvc_ok zc_Mo_tellRule zm_Mo_tellRule 205 (fun _ => rfl) H
set_option maxRecDepth 100000 in
set_option maxHeartbeats 8000000 in
theorem s_Mo_tellRule_118 (d : Nat) (a0 a1 : Int) (m : zM) (h : zH) (Q : zQ) (H :
  kd h a0 = 13 ∧ ((m a0 13) ≤ 0 →
    kd h a0 = 13 ∧ kd h a0 = 13 ∧ kd h a0 = 13 ∧ kd h (m a0 20) = 101 ∧ (0 : Int) ≤ (m a0 18) ∧ (m a0 18) < ln h (m a0 20) ∧ kd h a0 = 13 ∧ zcal WP d n_Mo_next [.inr (.inr a0)] m h (zk0 fun m1 h1 =>
    kd h1 a0 = 13 ∧ kd h1 (m1 a0 21) = 101 ∧ 0 < (m1 a0 21) ∧ (0 : Int) ≤ (w32 ((w32 (24 * (m a0 18))) + (m (m a0 20) (m a0 18)))) ∧ (w32 ((w32 (24 * (m a0 18))) + (m (m a0 20) (m a0 18)))) < ln h1 (m1 a0 21) ∧ ∀ m2, m2 = zwr m1 (m1 a0 21) (w32 ((w32 (24 * (m a0 18))) + (m (m a0 20) (m a0 18)))) a1 →
    kd h1 a0 = 13 ∧ kd h1 a0 = 13 ∧ kd h1 a0 = 13 ∧ kd h1 (m2 a0 8) = 104 ∧ (0 : Int) ≤ (m2 a0 11) ∧ (m2 a0 11) < ln h1 (m2 a0 8) ∧ kd h1 (m2 a0 22) = 104 ∧ 0 < (m2 a0 22) ∧ (0 : Int) ≤ (w32 ((w32 (24 * (m a0 18))) + (m (m a0 20) (m a0 18)))) ∧ (w32 ((w32 (24 * (m a0 18))) + (m (m a0 20) (m a0 18)))) < ln h1 (m2 a0 22) ∧ ∀ m3, m3 = zwr m2 (m2 a0 22) (w32 ((w32 (24 * (m a0 18))) + (m (m a0 20) (m a0 18)))) (m2 (m2 a0 8) (m2 a0 11)) →
    kd h1 a0 = 13 ∧ zcal WP d n_Mo_must [.inr (.inr a0), .inl 1] m3 h1 (zk0 fun m4 h4 =>
    kd h4 a0 = 13 ∧ kd h4 a0 = 13 ∧ kd h4 (m4 a0 23) = 101 ∧ 0 < (m4 a0 23) ∧ (0 : Int) ≤ (w32 ((w32 (24 * (m a0 18))) + (m (m a0 20) (m a0 18)))) ∧ (w32 ((w32 (24 * (m a0 18))) + (m (m a0 20) (m a0 18)))) < ln h4 (m4 a0 23) ∧ ∀ m5, m5 = zwr m4 (m4 a0 23) (w32 ((w32 (24 * (m a0 18))) + (m (m a0 20) (m a0 18)))) (m4 a0 34) →
    (a1 ≤ 1 →
      q_Mo_tellRule_199 d a0 a1 (w32 ((w32 (24 * (m a0 18))) + (m (m a0 20) (m a0 18)))) m5 h4 Q) ∧
    (¬ (a1 ≤ 1) →
      ((5 : Int) ≤ a1 →
        q_Mo_tellRule_199 d a0 a1 (w32 ((w32 (24 * (m a0 18))) + (m (m a0 20) (m a0 18)))) m5 h4 Q) ∧
      (¬ ((5 : Int) ≤ a1) →
        kd h4 a0 = 13 ∧ zcal WP d n_Mo_expression [.inr (.inr a0)] m5 h4 (zk0 fun m6 h6 =>
        q_Mo_tellRule_199 d a0 a1 (w32 ((w32 (24 * (m a0 18))) + (m (m a0 20) (m a0 18)))) m6 h6 Q)))))) ∧
  (¬ ((m a0 13) ≤ 0) →
    Q none m h)) : q_Mo_tellRule_118 d a0 a1 m h Q := zvc_ok zc_Mo_tellRule zm_Mo_tellRule 205 (fun _ => rfl) H
set_option maxRecDepth 100000 in
set_option maxHeartbeats 8000000 in
theorem s_Mo_tellRule_199 (d : Nat) (a0 a1 a2 : Int) (m : zM) (h : zH) (Q : zQ) (H :
  kd h a0 = 13 ∧ kd h a0 = 13 ∧ kd h (m a0 24) = 101 ∧ 0 < (m a0 24) ∧ (0 : Int) ≤ a2 ∧ a2 < ln h (m a0 24) ∧ ∀ m1, m1 = zwr m (m a0 24) a2 (m a0 34) →
  kd h a0 = 13 ∧ kd h a0 = 13 ∧ kd h (m1 a0 25) = 101 ∧ 0 < (m1 a0 25) ∧ (0 : Int) ≤ a2 ∧ a2 < ln h (m1 a0 25) ∧ ∀ m2, m2 = zwr m1 (m1 a0 25) a2 (m1 a0 27) →
  kd h a0 = 13 ∧ zcal WP d n_Mo_is [.inr (.inr a0), .inl 22] m2 h (zk1 fun r3 m3 h3 =>
  (r3 = 0 →
    q_Mo_tellRule_238 d a0 a1 a2 0 m3 h3 Q) ∧
  (¬ (r3 = 0) →
    (a1 = 5 →
      q_Mo_tellRule_238 d a0 a1 a2 0 m3 h3 Q) ∧
    (¬ (a1 = 5) →
      q_Mo_tellRule_238 d a0 a1 a2 1 m3 h3 Q)))) : q_Mo_tellRule_199 d a0 a1 a2 m h Q := zvc_ok zc_Mo_tellRule zm_Mo_tellRule 205 (fun _ => rfl) H
set_option maxRecDepth 100000 in
set_option maxHeartbeats 8000000 in
theorem s_Mo_tellRule_238 (d : Nat) (a0 a1 a2 s0 : Int) (m : zM) (h : zH) (Q : zQ) (H :
  ((2 : Int) ≤ a1 →
    (s0 = 0 →
      q_Mo_tellRule_268 d a0 a2 s0 m h Q) ∧
    (¬ (s0 = 0) →
      kd h a0 = 13 ∧ zcal WP d n_Mo_next [.inr (.inr a0)] m h (zk0 fun m1 h1 =>
      q_Mo_tellRule_268 d a0 a2 s0 m1 h1 Q))) ∧
  (¬ ((2 : Int) ≤ a1) →
    kd h a0 = 13 ∧ ((m a0 13) ≠ 0 →
      (s0 = 0 →
        q_Mo_tellRule_268 d a0 a2 s0 m h Q) ∧
      (¬ (s0 = 0) →
        kd h a0 = 13 ∧ zcal WP d n_Mo_next [.inr (.inr a0)] m h (zk0 fun m1 h1 =>
        q_Mo_tellRule_268 d a0 a2 s0 m1 h1 Q))) ∧
    (¬ ((m a0 13) ≠ 0) →
      kd h a0 = 13 ∧ zcal WP d n_Mo_must [.inr (.inr a0), .inl 22] m h (zk0 fun m1 h1 =>
      q_Mo_tellRule_268 d a0 a2 s0 m1 h1 Q)))) : q_Mo_tellRule_238 d a0 a1 a2 s0 m h Q := zvc_ok zc_Mo_tellRule zm_Mo_tellRule 205 (fun _ => rfl) H
set_option maxRecDepth 100000 in
set_option maxHeartbeats 8000000 in
theorem s_Mo_tellRule_268 (d : Nat) (a0 a2 a3 : Int) (m : zM) (h : zH) (Q : zQ) (H :
  (a3 = 0 →
    q_Mo_tellRule_289 d a0 a2 0 1 m h Q) ∧
  (¬ (a3 = 0) →
    kd h a0 = 13 ∧ ((m a0 13) ≠ 0 →
      q_Mo_tellRule_289 d a0 a2 0 1 m h Q) ∧
    (¬ ((m a0 13) ≠ 0) →
      q_Mo_tellRule_289 d a0 a2 1 1 m h Q))) : q_Mo_tellRule_268 d a0 a2 a3 m h Q := zvc_ok zc_Mo_tellRule zm_Mo_tellRule 205 (fun _ => rfl) H
set_option maxRecDepth 100000 in
set_option maxHeartbeats 8000000 in
theorem s_Mo_tellRule_289 (d : Nat) (a0 a2 a4 a5 : Int) (m : zM) (h : zH) (Q : zQ) (H :
  (a4 = 0 →
    q_Mo_tellRule_348 d a0 a2 m h Q) ∧
  (¬ (a4 = 0) →
    kd h a0 = 13 ∧ ((m a0 13) ≠ 0 →
      q_Mo_tellRule_348 d a0 a2 m h Q) ∧
    (¬ ((m a0 13) ≠ 0) →
      kd h a0 = 13 ∧ zcal WP d n_Mo_literal [.inr (.inr a0), .inl a5] m h (zk0 fun m1 h1 =>
      kd h1 a0 = 13 ∧ zcal WP d n_Mo_is [.inr (.inr a0), .inl 28] m1 h1 (zk1 fun r2 m2 h2 =>
      (r2 ≠ 0 →
        q_Mo_tellRule_329 d a0 a2 r2 m2 h2 Q) ∧
      (¬ (r2 ≠ 0) →
        kd h2 a0 = 13 ∧ zcal WP d n_Mo_is [.inr (.inr a0), .inl 29] m2 h2 (zk1 fun r3 m3 h3 =>
        (r3 = 0 →
          ((0 : Int) = 0 →
            q_Mo_tellRule_289 d a0 a2 0 r2 m3 h3 Q) ∧
          (¬ ((0 : Int) = 0) →
            kd h3 a0 = 13 ∧ zcal WP d n_Mo_next [.inr (.inr a0)] m3 h3 (zk0 fun m4 h4 =>
            q_Mo_tellRule_289 d a0 a2 0 r2 m4 h4 Q))) ∧
        (¬ (r3 = 0) →
          q_Mo_tellRule_329 d a0 a2 r2 m3 h3 Q)))))))) : q_Mo_tellRule_289 d a0 a2 a4 a5 m h Q := zvc_ok zc_Mo_tellRule zm_Mo_tellRule 205 (fun _ => rfl) H
set_option maxRecDepth 100000 in
set_option maxHeartbeats 8000000 in
theorem s_Mo_tellRule_329 (d : Nat) (a0 a2 a5 : Int) (m : zM) (h : zH) (Q : zQ) (H :
  ((1 : Int) = 0 →
    q_Mo_tellRule_289 d a0 a2 1 a5 m h Q) ∧
  (¬ ((1 : Int) = 0) →
    kd h a0 = 13 ∧ zcal WP d n_Mo_next [.inr (.inr a0)] m h (zk0 fun m1 h1 =>
    q_Mo_tellRule_289 d a0 a2 1 a5 m1 h1 Q))) : q_Mo_tellRule_329 d a0 a2 a5 m h Q := zvc_ok zc_Mo_tellRule zm_Mo_tellRule 205 (fun _ => rfl) H
set_option maxRecDepth 100000 in
set_option maxHeartbeats 8000000 in
theorem s_Mo_tellRule_348 (d : Nat) (a0 a2 : Int) (m : zM) (h : zH) (Q : zQ) (H :
  kd h a0 = 13 ∧ zcal WP d n_Mo_must [.inr (.inr a0), .inl 4] m h (zk0 fun m1 h1 =>
  kd h1 a0 = 13 ∧ kd h1 a0 = 13 ∧ kd h1 (m1 a0 26) = 101 ∧ 0 < (m1 a0 26) ∧ (0 : Int) ≤ a2 ∧ a2 < ln h1 (m1 a0 26) ∧ ∀ m2, m2 = zwr m1 (m1 a0 26) a2 (m1 a0 27) →
  kd h1 a0 = 13 ∧ ((m2 a0 13) ≠ 0 →
    Q none m2 h1) ∧
  (¬ ((m2 a0 13) ≠ 0) →
    kd h1 a0 = 13 ∧ kd h1 a0 = 13 ∧ kd h1 (m2 a0 20) = 101 ∧ (0 : Int) ≤ (m2 a0 18) ∧ (m2 a0 18) < ln h1 (m2 a0 20) ∧ kd h1 (m2 a0 20) = 101 ∧ 0 < (m2 a0 20) ∧ (0 : Int) ≤ (m2 a0 18) ∧ (m2 a0 18) < ln h1 (m2 a0 20) ∧ ∀ m3, m3 = zwr m2 (m2 a0 20) (m2 a0 18) (w32 ((m2 (m2 a0 20) (m2 a0 18)) + 1)) →
    Q none m3 h1))) : q_Mo_tellRule_348 d a0 a2 m h Q := zvc_ok zc_Mo_tellRule zm_Mo_tellRule 205 (fun _ => rfl) H
theorem e_Mo_tellRule (d : Nat) (a0 : Int) (m : zM) (h : zH) (Q : zQ) (H : q_Mo_tellRule_0 d a0 m h Q) : zcal WP (d + 1) n_Mo_tellRule [.inr (.inr a0)] m h Q := zcal_mk rfl H
def zm_Mo_literal : Nat → Option (List Bool) := fun pc => bif Nat.beq pc 2 then some [true, true, true, false, false, false] else (bif Nat.beq pc 60 then some [true, true, true, true, false, false] else (bif Nat.beq pc 85 then some [true, true, true, true, true, false] else (none)))
abbrev q_Mo_literal_0 (d : Nat) (a0 a1 : Int) (m : zM) (h : zH) (Q : zQ) : Prop := WP d n_Mo_literal 0 [some (.inr (.inr a0)), some (.inl a1), none, none, none, none] [] m h Q
abbrev q_Mo_literal_2 (d : Nat) (a0 a1 a2 : Int) (m : zM) (h : zH) (Q : zQ) : Prop := WP d n_Mo_literal 2 [some (.inr (.inr a0)), some (.inl a1), some (.inl a2), none, none, none] [] m h Q
abbrev q_Mo_literal_60 (d : Nat) (a0 a1 a2 a3 s0 : Int) (m : zM) (h : zH) (Q : zQ) : Prop := WP d n_Mo_literal 60 [some (.inr (.inr a0)), some (.inl a1), some (.inl a2), some (.inl a3), none, none] [.inl s0] m h Q
abbrev q_Mo_literal_85 (d : Nat) (a0 a1 a2 a3 a4 : Int) (m : zM) (h : zH) (Q : zQ) : Prop := WP d n_Mo_literal 85 [some (.inr (.inr a0)), some (.inl a1), some (.inl a2), some (.inl a3), some (.inl a4), none] [] m h Q
set_option maxRecDepth 100000 in
set_option maxHeartbeats 8000000 in
theorem s_Mo_literal_0 (d : Nat) (a0 a1 : Int) (m : zM) (h : zH) (Q : zQ) (H :
  q_Mo_literal_2 d a0 a1 0 m h Q) : q_Mo_literal_0 d a0 a1 m h Q := zvc_ok zc_Mo_literal zm_Mo_literal 100 (fun _ => rfl) H
set_option maxRecDepth 100000 in
set_option maxHeartbeats 8000000 in
theorem s_Mo_literal_2 (d : Nat) (a0 a1 a2 : Int) (m : zM) (h : zH) (Q : zQ) (H :
  kd h a0 = 13 ∧ zcal WP d n_Mo_is [.inr (.inr a0), .inl 30] m h (zk1 fun r1 m1 h1 =>
  (r1 = 0 →
    kd h1 a0 = 13 ∧ kd h1 a0 = 13 ∧ zcal WP d n_Mo_expression [.inr (.inr a0)] m1 h1 (zk0 fun m2 h2 =>
    kd h2 a0 = 13 ∧ ((m2 a0 13) ≤ 0 →
      kd h2 a0 = 13 ∧ kd h2 a0 = 13 ∧ kd h2 (m2 a0 5) = 101 ∧ (0 : Int) ≤ (m2 a0 11) ∧ (m2 a0 11) < ln h2 (m2 a0 5) ∧ q_Mo_literal_60 d a0 a1 a2 (m1 a0 34) (w32 ((m2 (m2 a0 5) (m2 a0 11)) - 11)) m2 h2 Q) ∧
    (¬ ((m2 a0 13) ≤ 0) →
      q_Mo_literal_60 d a0 a1 a2 (m1 a0 34) 0 m2 h2 Q))) ∧
  (¬ (r1 = 0) →
    (a2 ≠ 0 →
      kd h1 a0 = 13 ∧ zcal WP d n_Mo_next [.inr (.inr a0)] m1 h1 (zk0 fun m2 h2 =>
      q_Mo_literal_2 d a0 a1 0 m2 h2 Q)) ∧
    (¬ (a2 ≠ 0) →
      kd h1 a0 = 13 ∧ zcal WP d n_Mo_next [.inr (.inr a0)] m1 h1 (zk0 fun m2 h2 =>
      q_Mo_literal_2 d a0 a1 1 m2 h2 Q))))) : q_Mo_literal_2 d a0 a1 a2 m h Q := zvc_ok zc_Mo_literal zm_Mo_literal 100 (fun _ => rfl) H
set_option maxRecDepth 100000 in
set_option maxHeartbeats 8000000 in
theorem s_Mo_literal_60 (d : Nat) (a0 a1 a2 a3 s0 : Int) (m : zM) (h : zH) (Q : zQ) (H :
  kd h a0 = 13 ∧ ((m a0 13) ≠ 0 →
    q_Mo_literal_85 d a0 a1 a2 a3 s0 m h Q) ∧
  (¬ ((m a0 13) ≠ 0) →
    (s0 < 0 →
      kd h a0 = 13 ∧ zcal WP d n_Mo_fail [.inr (.inr a0), .inl 1] m h (zk0 fun m1 h1 =>
      q_Mo_literal_85 d a0 a1 a2 a3 s0 m1 h1 Q)) ∧
    (¬ (s0 < 0) →
      (s0 ≤ 3 →
        q_Mo_literal_85 d a0 a1 a2 a3 s0 m h Q) ∧
      (¬ (s0 ≤ 3) →
        kd h a0 = 13 ∧ zcal WP d n_Mo_fail [.inr (.inr a0), .inl 1] m h (zk0 fun m1 h1 =>
        q_Mo_literal_85 d a0 a1 a2 a3 s0 m1 h1 Q))))) : q_Mo_literal_60 d a0 a1 a2 a3 s0 m h Q := zvc_ok zc_Mo_literal zm_Mo_literal 100 (fun _ => rfl) H
set_option maxRecDepth 100000 in
set_option maxHeartbeats 8000000 in
theorem s_Mo_literal_85 (d : Nat) (a0 a1 a2 a3 a4 : Int) (m : zM) (h : zH) (Q : zQ) (H :
  kd h a0 = 13 ∧ zcal WP d n_Mo_next [.inr (.inr a0)] m h (zk0 fun m1 h1 =>
  kd h1 a0 = 13 ∧ kd h1 a0 = 13 ∧ zcal WP d n_Mo_expression [.inr (.inr a0)] m1 h1 (zk0 fun m2 h2 =>
  kd h2 a0 = 13 ∧ ((m2 a0 13) ≤ 0 →
    kd h2 a0 = 13 ∧ kd h2 a0 = 13 ∧ kd h2 (m2 a0 28) = 101 ∧ 0 < (m2 a0 28) ∧ (0 : Int) ≤ (m2 a0 27) ∧ (m2 a0 27) < ln h2 (m2 a0 28) ∧ ∀ m3, m3 = zwr m2 (m2 a0 28) (m2 a0 27) a4 →
    kd h2 a0 = 13 ∧ kd h2 a0 = 13 ∧ (a2 = 0 ∨ a2 = 1) ∧ kd h2 (m3 a0 29) = 103 ∧ 0 < (m3 a0 29) ∧ (0 : Int) ≤ (m3 a0 27) ∧ (m3 a0 27) < ln h2 (m3 a0 29) ∧ ∀ m4, m4 = zwr m3 (m3 a0 29) (m3 a0 27) a2 →
    kd h2 a0 = 13 ∧ kd h2 a0 = 13 ∧ (a1 = 0 ∨ a1 = 1) ∧ kd h2 (m4 a0 30) = 103 ∧ 0 < (m4 a0 30) ∧ (0 : Int) ≤ (m4 a0 27) ∧ (m4 a0 27) < ln h2 (m4 a0 30) ∧ ∀ m5, m5 = zwr m4 (m4 a0 30) (m4 a0 27) a1 →
    kd h2 a0 = 13 ∧ kd h2 a0 = 13 ∧ kd h2 (m5 a0 31) = 101 ∧ 0 < (m5 a0 31) ∧ (0 : Int) ≤ (m5 a0 27) ∧ (m5 a0 27) < ln h2 (m5 a0 31) ∧ ∀ m6, m6 = zwr m5 (m5 a0 31) (m5 a0 27) a3 →
    kd h2 a0 = 13 ∧ kd h2 a0 = 13 ∧ kd h2 (m6 a0 32) = 101 ∧ 0 < (m6 a0 32) ∧ (0 : Int) ≤ (m6 a0 27) ∧ (m6 a0 27) < ln h2 (m6 a0 32) ∧ ∀ m7, m7 = zwr m6 (m6 a0 32) (m6 a0 27) (m1 a0 34) →
    kd h2 a0 = 13 ∧ kd h2 a0 = 13 ∧ kd h2 a0 = 13 ∧ kd h2 (m7 a0 33) = 101 ∧ 0 < (m7 a0 33) ∧ (0 : Int) ≤ (m7 a0 27) ∧ (m7 a0 27) < ln h2 (m7 a0 33) ∧ ∀ m8, m8 = zwr m7 (m7 a0 33) (m7 a0 27) (m7 a0 34) →
    kd h2 a0 = 13 ∧ kd h2 a0 = 13 ∧ 0 < a0 ∧ ∀ m9, m9 = zwr m8 a0 27 (w32 ((m8 a0 27) + 1)) →
    Q none m9 h2) ∧
  (¬ ((m2 a0 13) ≤ 0) →
    Q none m2 h2)))) : q_Mo_literal_85 d a0 a1 a2 a3 a4 m h Q := zvc_ok zc_Mo_literal zm_Mo_literal 100 (fun _ => rfl) H
theorem e_Mo_literal (d : Nat) (a0 a1 : Int) (m : zM) (h : zH) (Q : zQ) (H : q_Mo_literal_0 d a0 a1 m h Q) : zcal WP (d + 1) n_Mo_literal [.inr (.inr a0), .inl a1] m h Q := zcal_mk rfl H
def zm_Mo_emit : Nat → Option (List Bool) := fun pc => none
abbrev q_Mo_emit_0 (d : Nat) (a0 a1 a2 : Int) (m : zM) (h : zH) (Q : zQ) : Prop := WP d n_Mo_emit 0 [some (.inr (.inr a0)), some (.inl a1), some (.inl a2)] [] m h Q
set_option maxRecDepth 100000 in
set_option maxHeartbeats 8000000 in
theorem s_Mo_emit_0 (d : Nat) (a0 a1 a2 : Int) (m : zM) (h : zH) (Q : zQ) (H :
  kd h a0 = 13 ∧ kd h a0 = 13 ∧ kd h (m a0 35) = 101 ∧ 0 < (m a0 35) ∧ (0 : Int) ≤ (m a0 34) ∧ (m a0 34) < ln h (m a0 35) ∧ ∀ m1, m1 = zwr m (m a0 35) (m a0 34) a1 →
  kd h a0 = 13 ∧ kd h a0 = 13 ∧ kd h (m1 a0 36) = 101 ∧ 0 < (m1 a0 36) ∧ (0 : Int) ≤ (m1 a0 34) ∧ (m1 a0 34) < ln h (m1 a0 36) ∧ ∀ m2, m2 = zwr m1 (m1 a0 36) (m1 a0 34) a2 →
  kd h a0 = 13 ∧ kd h a0 = 13 ∧ 0 < a0 ∧ ∀ m3, m3 = zwr m2 a0 34 (w32 ((m2 a0 34) + 1)) →
  Q none m3 h) : q_Mo_emit_0 d a0 a1 a2 m h Q := zvc_ok zc_Mo_emit zm_Mo_emit 20 (fun _ => rfl) H
theorem e_Mo_emit (d : Nat) (a0 a1 a2 : Int) (m : zM) (h : zH) (Q : zQ) (H : q_Mo_emit_0 d a0 a1 a2 m h Q) : zcal WP (d + 1) n_Mo_emit [.inr (.inr a0), .inl a1, .inl a2] m h Q := zcal_mk rfl H
def zm_Mo_comesOut : Nat → Option (List Bool) := fun pc => bif Nat.beq pc 0 then some [true, true, false] else (bif Nat.beq pc 42 then some [true, true, true] else (none))
abbrev q_Mo_comesOut_0 (d : Nat) (a0 a1 : Int) (m : zM) (h : zH) (Q : zQ) : Prop := WP d n_Mo_comesOut 0 [some (.inr (.inr a0)), some (.inl a1), none] [] m h Q
abbrev q_Mo_comesOut_42 (d : Nat) (a0 a1 a2 : Int) (m : zM) (h : zH) (Q : zQ) : Prop := WP d n_Mo_comesOut 42 [some (.inr (.inr a0)), some (.inl a1), some (.inl a2)] [] m h Q
set_option maxRecDepth 100000 in
set_option maxHeartbeats 8000000 in
theorem s_Mo_comesOut_0 (d : Nat) (a0 a1 : Int) (m : zM) (h : zH) (Q : zQ) (H :
  kd h a0 = 13 ∧ ((m a0 38) ≤ 0 →
    Q none m h) ∧
  (¬ ((m a0 38) ≤ 0) →
    kd h a0 = 13 ∧ kd h a0 = 13 ∧ kd h (m a0 37) = 101 ∧ (0 : Int) ≤ (w32 ((m a0 38) - 1)) ∧ (w32 ((m a0 38) - 1)) < ln h (m a0 37) ∧ ((m (m a0 37) (w32 ((m a0 38) - 1))) = 6 →
      Q none m h) ∧
    (¬ ((m (m a0 37) (w32 ((m a0 38) - 1))) = 6) →
      (a1 = 0 →
        q_Mo_comesOut_42 d a0 a1 (m (m a0 37) (w32 ((m a0 38) - 1))) m h Q) ∧
      (¬ (a1 = 0) →
        ((m (m a0 37) (w32 ((m a0 38) - 1))) = 8 →
          Q none m h) ∧
        (¬ ((m (m a0 37) (w32 ((m a0 38) - 1))) = 8) →
          ((m (m a0 37) (w32 ((m a0 38) - 1))) ≠ 9 →
            q_Mo_comesOut_42 d a0 a1 (m (m a0 37) (w32 ((m a0 38) - 1))) m h Q) ∧
          (¬ ((m (m a0 37) (w32 ((m a0 38) - 1))) ≠ 9) →
            Q none m h)))))) : q_Mo_comesOut_0 d a0 a1 m h Q := zvc_ok zc_Mo_comesOut zm_Mo_comesOut 51 (fun _ => rfl) H
set_option maxRecDepth 100000 in
set_option maxHeartbeats 8000000 in
theorem s_Mo_comesOut_42 (d : Nat) (a0 a1 a2 : Int) (m : zM) (h : zH) (Q : zQ) (H :
  kd h a0 = 13 ∧ kd h a0 = 13 ∧ 0 < a0 ∧ ∀ m1, m1 = zwr m a0 38 (w32 ((m a0 38) - 1)) →
  (a2 ≠ 8 →
    (a2 ≠ 9 →
      (a2 ≠ 10 →
        kd h a0 = 13 ∧ zcal WP d n_Mo_emit [.inr (.inr a0), .inl 5, .inl 0] m1 h (zk0 fun m2 h2 =>
        q_Mo_comesOut_0 d a0 a1 m2 h2 Q)) ∧
      (¬ (a2 ≠ 10) →
        kd h a0 = 13 ∧ zcal WP d n_Mo_emit [.inr (.inr a0), .inl 4, .inl 0] m1 h (zk0 fun m2 h2 =>
        q_Mo_comesOut_0 d a0 a1 m2 h2 Q))) ∧
    (¬ (a2 ≠ 9) →
      kd h a0 = 13 ∧ zcal WP d n_Mo_emit [.inr (.inr a0), .inl 3, .inl 0] m1 h (zk0 fun m2 h2 =>
      q_Mo_comesOut_0 d a0 a1 m2 h2 Q))) ∧
  (¬ (a2 ≠ 8) →
    kd h a0 = 13 ∧ zcal WP d n_Mo_emit [.inr (.inr a0), .inl 2, .inl 0] m1 h (zk0 fun m2 h2 =>
    q_Mo_comesOut_0 d a0 a1 m2 h2 Q))) : q_Mo_comesOut_42 d a0 a1 a2 m h Q := zvc_ok zc_Mo_comesOut zm_Mo_comesOut 51 (fun _ => rfl) H
theorem e_Mo_comesOut (d : Nat) (a0 a1 : Int) (m : zM) (h : zH) (Q : zQ) (H : q_Mo_comesOut_0 d a0 a1 m h Q) : zcal WP (d + 1) n_Mo_comesOut [.inr (.inr a0), .inl a1] m h Q := zcal_mk rfl H
def zm_Mo_expression : Nat → Option (List Bool) := fun pc => bif Nat.beq pc 12 then some [true, true, true] else (bif Nat.beq pc 23 then some [true, true, false] else (bif Nat.beq pc 46 then some [true, true, false] else (bif Nat.beq pc 96 then some [true, true, false] else (bif Nat.beq pc 145 then some [true, true, false] else (bif Nat.beq pc 186 then some [true, true, false] else (bif Nat.beq pc 234 then some [true, true, true] else (none)))))))
abbrev q_Mo_expression_0 (d : Nat) (a0 : Int) (m : zM) (h : zH) (Q : zQ) : Prop := WP d n_Mo_expression 0 [some (.inr (.inr a0)), none, none] [] m h Q
abbrev q_Mo_expression_12 (d : Nat) (a0 a1 a2 : Int) (m : zM) (h : zH) (Q : zQ) : Prop := WP d n_Mo_expression 12 [some (.inr (.inr a0)), some (.inl a1), some (.inl a2)] [] m h Q
abbrev q_Mo_expression_23 (d : Nat) (a0 a1 : Int) (m : zM) (h : zH) (Q : zQ) : Prop := WP d n_Mo_expression 23 [some (.inr (.inr a0)), some (.inl a1), none] [] m h Q
abbrev q_Mo_expression_46 (d : Nat) (a0 a1 : Int) (m : zM) (h : zH) (Q : zQ) : Prop := WP d n_Mo_expression 46 [some (.inr (.inr a0)), some (.inl a1), none] [] m h Q
abbrev q_Mo_expression_96 (d : Nat) (a0 a1 : Int) (m : zM) (h : zH) (Q : zQ) : Prop := WP d n_Mo_expression 96 [some (.inr (.inr a0)), some (.inl a1), none] [] m h Q
abbrev q_Mo_expression_145 (d : Nat) (a0 a1 : Int) (m : zM) (h : zH) (Q : zQ) : Prop := WP d n_Mo_expression 145 [some (.inr (.inr a0)), some (.inl a1), none] [] m h Q
abbrev q_Mo_expression_186 (d : Nat) (a0 a1 s0 : Int) (m : zM) (h : zH) (Q : zQ) : Prop := WP d n_Mo_expression 186 [some (.inr (.inr a0)), some (.inl a1), none] [.inl s0] m h Q
abbrev q_Mo_expression_234 (d : Nat) (a0 a1 a2 s0 s1 : Int) (m : zM) (h : zH) (Q : zQ) : Prop := WP d n_Mo_expression 234 [some (.inr (.inr a0)), some (.inl a1), some (.inl a2)] [.inl s0, .inr (.inr s1)] m h Q
set_option maxRecDepth 100000 in
set_option maxHeartbeats 8000000 in
theorem s_Mo_expression_0 (d : Nat) (a0 : Int) (m : zM) (h : zH) (Q : zQ) (H :
  kd h a0 = 13 ∧ 0 < a0 ∧ ∀ m1, m1 = zwr m a0 38 0 →
  kd h a0 = 13 ∧ q_Mo_expression_12 d a0 (m1 a0 12) 1 m1 h Q) : q_Mo_expression_0 d a0 m h Q := zvc_ok zc_Mo_expression zm_Mo_expression 144 (fun _ => rfl) H
set_option maxRecDepth 100000 in
set_option maxHeartbeats 8000000 in
theorem s_Mo_expression_12 (d : Nat) (a0 a1 a2 : Int) (m : zM) (h : zH) (Q : zQ) (H :
  (a2 = 0 →
    Q none m h) ∧
  (¬ (a2 = 0) →
    kd h a0 = 13 ∧ ((m a0 13) ≠ 0 →
      Q none m h) ∧
    (¬ ((m a0 13) ≠ 0) →
      q_Mo_expression_23 d a0 a1 m h Q))) : q_Mo_expression_12 d a0 a1 a2 m h Q := zvc_ok zc_Mo_expression zm_Mo_expression 144 (fun _ => rfl) H
set_option maxRecDepth 100000 in
set_option maxHeartbeats 8000000 in
theorem s_Mo_expression_23 (d : Nat) (a0 a1 : Int) (m : zM) (h : zH) (Q : zQ) (H :
  kd h a0 = 13 ∧ zcal WP d n_Mo_is [.inr (.inr a0), .inl 6] m h (zk1 fun r1 m1 h1 =>
  (r1 = 0 →
    kd h1 a0 = 13 ∧ zcal WP d n_Mo_unit [.inr (.inr a0)] m1 h1 (zk0 fun m2 h2 =>
    kd h2 a0 = 13 ∧ ((m2 a0 13) ≤ 0 →
      q_Mo_expression_96 d a0 a1 m2 h2 Q) ∧
    (¬ ((m2 a0 13) ≤ 0) →
      Q none m2 h2))) ∧
  (¬ (r1 = 0) →
    kd h1 a0 = 13 ∧ ((m1 a0 12) ≠ 6 →
      q_Mo_expression_46 d a0 a1 m1 h1 Q) ∧
    (¬ ((m1 a0 12) ≠ 6) →
      kd h1 a0 = 13 ∧ zcal WP d n_Mo_fail [.inr (.inr a0), .inl 2] m1 h1 (zk0 fun m2 h2 =>
      q_Mo_expression_46 d a0 a1 m2 h2 Q))))) : q_Mo_expression_23 d a0 a1 m h Q := zvc_ok zc_Mo_expression zm_Mo_expression 144 (fun _ => rfl) H
set_option maxRecDepth 100000 in
set_option maxHeartbeats 8000000 in
theorem s_Mo_expression_46 (d : Nat) (a0 a1 : Int) (m : zM) (h : zH) (Q : zQ) (H :
  kd h a0 = 13 ∧ kd h a0 = 13 ∧ 0 < a0 ∧ ∀ m1, m1 = zwr m a0 12 (w32 ((m a0 12) + 1)) →
  kd h a0 = 13 ∧ zcal WP d n_Mo_next [.inr (.inr a0)] m1 h (zk0 fun m2 h2 =>
  kd h2 a0 = 13 ∧ kd h2 a0 = 13 ∧ kd h2 (m2 a0 37) = 101 ∧ 0 < (m2 a0 37) ∧ (0 : Int) ≤ (m2 a0 38) ∧ (m2 a0 38) < ln h2 (m2 a0 37) ∧ ∀ m3, m3 = zwr m2 (m2 a0 37) (m2 a0 38) 6 →
  kd h2 a0 = 13 ∧ kd h2 a0 = 13 ∧ 0 < a0 ∧ ∀ m4, m4 = zwr m3 a0 38 (w32 ((m3 a0 38) + 1)) →
  q_Mo_expression_23 d a0 a1 m4 h2 Q)) : q_Mo_expression_46 d a0 a1 m h Q := zvc_ok zc_Mo_expression zm_Mo_expression 144 (fun _ => rfl) H
set_option maxRecDepth 100000 in
set_option maxHeartbeats 8000000 in
theorem s_Mo_expression_96 (d : Nat) (a0 a1 : Int) (m : zM) (h : zH) (Q : zQ) (H :
  kd h a0 = 13 ∧ zcal WP d n_Mo_is [.inr (.inr a0), .inl 7] m h (zk1 fun r1 m1 h1 =>
  (r1 = 0 →
    q_Mo_expression_145 d a0 a1 m1 h1 Q) ∧
  (¬ (r1 = 0) →
    kd h1 a0 = 13 ∧ ((m1 a0 12) ≤ a1 →
      q_Mo_expression_145 d a0 a1 m1 h1 Q) ∧
    (¬ ((m1 a0 12) ≤ a1) →
      kd h1 a0 = 13 ∧ zcal WP d n_Mo_comesOut [.inr (.inr a0), .inl 0] m1 h1 (zk0 fun m2 h2 =>
      kd h2 a0 = 13 ∧ kd h2 a0 = 13 ∧ 0 < a0 ∧ ∀ m3, m3 = zwr m2 a0 38 (w32 ((m2 a0 38) - 1)) →
      kd h2 a0 = 13 ∧ kd h2 a0 = 13 ∧ 0 < a0 ∧ ∀ m4, m4 = zwr m3 a0 12 (w32 ((m3 a0 12) - 1)) →
      kd h2 a0 = 13 ∧ zcal WP d n_Mo_next [.inr (.inr a0)] m4 h2 (zk0 fun m5 h5 =>
      q_Mo_expression_96 d a0 a1 m5 h5 Q)))))) : q_Mo_expression_96 d a0 a1 m h Q := zvc_ok zc_Mo_expression zm_Mo_expression 144 (fun _ => rfl) H
set_option maxRecDepth 100000 in
set_option maxHeartbeats 8000000 in
theorem s_Mo_expression_145 (d : Nat) (a0 a1 : Int) (m : zM) (h : zH) (Q : zQ) (H :
  kd h a0 = 13 ∧ zcal WP d n_Mo_is [.inr (.inr a0), .inl 8] m h (zk1 fun r1 m1 h1 =>
  (r1 ≠ 0 →
    q_Mo_expression_186 d a0 a1 1 m1 h1 Q) ∧
  (¬ (r1 ≠ 0) →
    kd h1 a0 = 13 ∧ zcal WP d n_Mo_is [.inr (.inr a0), .inl 9] m1 h1 (zk1 fun r2 m2 h2 =>
    (r2 ≠ 0 →
      q_Mo_expression_186 d a0 a1 1 m2 h2 Q) ∧
    (¬ (r2 ≠ 0) →
      kd h2 a0 = 13 ∧ zcal WP d n_Mo_is [.inr (.inr a0), .inl 10] m2 h2 (zk1 fun r3 m3 h3 =>
      (r3 ≠ 0 →
        q_Mo_expression_186 d a0 a1 1 m3 h3 Q) ∧
      (¬ (r3 ≠ 0) →
        kd h3 a0 = 13 ∧ zcal WP d n_Mo_is [.inr (.inr a0), .inl 15] m3 h3 (zk1 fun r4 m4 h4 =>
        (r4 = 0 →
          q_Mo_expression_186 d a0 a1 0 m4 h4 Q) ∧
        (¬ (r4 = 0) →
          q_Mo_expression_186 d a0 a1 1 m4 h4 Q))))))))) : q_Mo_expression_145 d a0 a1 m h Q := zvc_ok zc_Mo_expression zm_Mo_expression 144 (fun _ => rfl) H
set_option maxRecDepth 100000 in
set_option maxHeartbeats 8000000 in
theorem s_Mo_expression_186 (d : Nat) (a0 a1 s0 : Int) (m : zM) (h : zH) (Q : zQ) (H :
  (s0 ≠ 0 →
    kd h a0 = 13 ∧ zcal WP d n_Mo_is [.inr (.inr a0), .inl 10] m h (zk1 fun r1 m1 h1 =>
    (r1 ≠ 0 →
      q_Mo_expression_234 d a0 a1 s0 1 a0 m1 h1 Q) ∧
    (¬ (r1 ≠ 0) →
      kd h1 a0 = 13 ∧ zcal WP d n_Mo_is [.inr (.inr a0), .inl 15] m1 h1 (zk1 fun r2 m2 h2 =>
      (r2 = 0 →
        q_Mo_expression_234 d a0 a1 s0 0 a0 m2 h2 Q) ∧
      (¬ (r2 = 0) →
        q_Mo_expression_234 d a0 a1 s0 1 a0 m2 h2 Q))))) ∧
  (¬ (s0 ≠ 0) →
    kd h a0 = 13 ∧ ((m a0 12) ≤ a1 →
      kd h a0 = 13 ∧ zcal WP d n_Mo_comesOut [.inr (.inr a0), .inl 0] m h (zk0 fun m1 h1 =>
      Q none m1 h1)) ∧
    (¬ ((m a0 12) ≤ a1) →
      kd h a0 = 13 ∧ zcal WP d n_Mo_fail [.inr (.inr a0), .inl 1] m h (zk0 fun m1 h1 =>
      kd h1 a0 = 13 ∧ zcal WP d n_Mo_comesOut [.inr (.inr a0), .inl 0] m1 h1 (zk0 fun m2 h2 =>
      Q none m2 h2))))) : q_Mo_expression_186 d a0 a1 s0 m h Q := zvc_ok zc_Mo_expression zm_Mo_expression 144 (fun _ => rfl) H
set_option maxRecDepth 100000 in
set_option maxHeartbeats 8000000 in
theorem s_Mo_expression_234 (d : Nat) (a0 a1 a2 s0 s1 : Int) (m : zM) (h : zH) (Q : zQ) (H :
  kd h s1 = 13 ∧ zcal WP d n_Mo_comesOut [.inr (.inr s1), .inl s0] m h (zk0 fun m1 h1 =>
  kd h1 a0 = 13 ∧ kd h1 a0 = 13 ∧ kd h1 a0 = 13 ∧ kd h1 a0 = 13 ∧ kd h1 (m1 a0 5) = 101 ∧ (0 : Int) ≤ (m1 a0 11) ∧ (m1 a0 11) < ln h1 (m1 a0 5) ∧ kd h1 (m1 a0 37) = 101 ∧ 0 < (m1 a0 37) ∧ (0 : Int) ≤ (m1 a0 38) ∧ (m1 a0 38) < ln h1 (m1 a0 37) ∧ ∀ m2, m2 = zwr m1 (m1 a0 37) (m1 a0 38) (m1 (m1 a0 5) (m1 a0 11)) →
  kd h1 a0 = 13 ∧ kd h1 a0 = 13 ∧ 0 < a0 ∧ ∀ m3, m3 = zwr m2 a0 38 (w32 ((m2 a0 38) + 1)) →
  kd h1 a0 = 13 ∧ zcal WP d n_Mo_next [.inr (.inr a0)] m3 h1 (zk0 fun m4 h4 =>
  q_Mo_expression_12 d a0 a1 a2 m4 h4 Q))) : q_Mo_expression_234 d a0 a1 a2 s0 s1 m h Q := zvc_ok zc_Mo_expression zm_Mo_expression 144 (fun _ => rfl) H
theorem e_Mo_expression (d : Nat) (a0 : Int) (m : zM) (h : zH) (Q : zQ) (H : q_Mo_expression_0 d a0 m h Q) : zcal WP (d + 1) n_Mo_expression [.inr (.inr a0)] m h Q := zcal_mk rfl H
def zm_Mo_unit : Nat → Option (List Bool) := fun pc => none
abbrev q_Mo_unit_0 (d : Nat) (a0 : Int) (m : zM) (h : zH) (Q : zQ) : Prop := WP d n_Mo_unit 0 [some (.inr (.inr a0))] [] m h Q
set_option maxRecDepth 100000 in
set_option maxHeartbeats 8000000 in
theorem s_Mo_unit_0 (d : Nat) (a0 : Int) (m : zM) (h : zH) (Q : zQ) (H :
  kd h a0 = 13 ∧ zcal WP d n_Mo_is [.inr (.inr a0), .inl 2] m h (zk1 fun r1 m1 h1 =>
  (r1 = 0 →
    kd h1 a0 = 13 ∧ ((m1 a0 13) ≠ 0 →
      kd h1 a0 = 13 ∧ zcal WP d n_Mo_fail [.inr (.inr a0), .inl 1] m1 h1 (zk0 fun m2 h2 =>
      Q none m2 h2)) ∧
    (¬ ((m1 a0 13) ≠ 0) →
      kd h1 a0 = 13 ∧ kd h1 a0 = 13 ∧ kd h1 (m1 a0 5) = 101 ∧ (0 : Int) ≤ (m1 a0 11) ∧ (m1 a0 11) < ln h1 (m1 a0 5) ∧ ((m1 (m1 a0 5) (m1 a0 11)) < 31 →
        kd h1 a0 = 13 ∧ zcal WP d n_Mo_fail [.inr (.inr a0), .inl 1] m1 h1 (zk0 fun m2 h2 =>
        Q none m2 h2)) ∧
      (¬ ((m1 (m1 a0 5) (m1 a0 11)) < 31) →
        kd h1 a0 = 13 ∧ kd h1 a0 = 13 ∧ kd h1 (m1 a0 5) = 101 ∧ (0 : Int) ≤ (m1 a0 11) ∧ (m1 a0 11) < ln h1 (m1 a0 5) ∧ ((42 : Int) < (m1 (m1 a0 5) (m1 a0 11)) →
          kd h1 a0 = 13 ∧ zcal WP d n_Mo_fail [.inr (.inr a0), .inl 1] m1 h1 (zk0 fun m2 h2 =>
          Q none m2 h2)) ∧
        (¬ ((42 : Int) < (m1 (m1 a0 5) (m1 a0 11))) →
          kd h1 a0 = 13 ∧ kd h1 a0 = 13 ∧ kd h1 (m1 a0 5) = 101 ∧ (0 : Int) ≤ (m1 a0 11) ∧ (m1 a0 11) < ln h1 (m1 a0 5) ∧ kd h1 a0 = 13 ∧ zcal WP d n_Mo_emit [.inr (.inr a0), .inl 1, .inl (w32 ((m1 (m1 a0 5) (m1 a0 11)) - 31))] m1 h1 (zk0 fun m2 h2 =>
          kd h2 a0 = 13 ∧ zcal WP d n_Mo_next [.inr (.inr a0)] m2 h2 (zk0 fun m3 h3 =>
          Q none m3 h3)))))) ∧
  (¬ (r1 = 0) →
    kd h1 a0 = 13 ∧ kd h1 a0 = 13 ∧ kd h1 (m1 a0 7) = 101 ∧ (0 : Int) ≤ (m1 a0 11) ∧ (m1 a0 11) < ln h1 (m1 a0 7) ∧ kd h1 a0 = 13 ∧ zcal WP d n_Mo_emit [.inr (.inr a0), .inl 0, .inl (m1 (m1 a0 7) (m1 a0 11))] m1 h1 (zk0 fun m2 h2 =>
    kd h2 a0 = 13 ∧ zcal WP d n_Mo_next [.inr (.inr a0)] m2 h2 (zk0 fun m3 h3 =>
    Q none m3 h3))))) : q_Mo_unit_0 d a0 m h Q := zvc_ok zc_Mo_unit zm_Mo_unit 50 (fun _ => rfl) H
theorem e_Mo_unit (d : Nat) (a0 : Int) (m : zM) (h : zH) (Q : zQ) (H : q_Mo_unit_0 d a0 m h Q) : zcal WP (d + 1) n_Mo_unit [.inr (.inr a0)] m h Q := zcal_mk rfl H
def zm_Mo_termOf : Nat → Option (List Bool) := fun pc => bif Nat.beq pc 10 then some [true, false, true, true, true, false, false, false] else (bif Nat.beq pc 109 then some [true, false, true, true, true, true, true, true] else (none))
abbrev q_Mo_termOf_0 (d : Nat) (a0 a1 a2 : Int) (m : zM) (h : zH) (Q : zQ) : Prop := WP d n_Mo_termOf 0 [some (.inr (.inr a0)), some (.inl a1), some (.inl a2), none, none, none, none, none] [] m h Q
abbrev q_Mo_termOf_10 (d : Nat) (a0 a2 a3 a4 : Int) (m : zM) (h : zH) (Q : zQ) : Prop := WP d n_Mo_termOf 10 [some (.inr (.inr a0)), none, some (.inl a2), some (.inl a3), some (.inl a4), none, none, none] [] m h Q
abbrev q_Mo_termOf_109 (d : Nat) (a0 a2 a3 a4 a5 a6 a7 : Int) (m : zM) (h : zH) (Q : zQ) : Prop := WP d n_Mo_termOf 109 [some (.inr (.inr a0)), none, some (.inl a2), some (.inl a3), some (.inl a4), some (.inl a5), some (.inl a6), some (.inl a7)] [] m h Q
set_option maxRecDepth 100000 in
set_option maxHeartbeats 8000000 in
theorem s_Mo_termOf_0 (d : Nat) (a0 a1 a2 : Int) (m : zM) (h : zH) (Q : zQ) (H :
  ((0 : Int) = 0 ∨ (0 : Int) = 1) ∧ kd h a0 = 13 ∧ 0 < a0 ∧ ∀ m1, m1 = zwr m a0 41 0 →
  q_Mo_termOf_10 d a0 a2 0 a1 m1 h Q) : q_Mo_termOf_0 d a0 a1 a2 m h Q := zvc_ok zc_Mo_termOf zm_Mo_termOf 99 (fun _ => rfl) H
set_option maxRecDepth 100000 in
set_option maxHeartbeats 8000000 in
theorem s_Mo_termOf_10 (d : Nat) (a0 a2 a3 a4 : Int) (m : zM) (h : zH) (Q : zQ) (H :
  (a2 ≤ a4 →
    kd h a0 = 13 ∧ kd h (m a0 40) = 101 ∧ (0 : Int) ≤ 0 ∧ 0 < ln h (m a0 40) ∧ Q (some (.inl (m (m a0 40) 0))) m h) ∧
  (¬ (a2 ≤ a4) →
    kd h a0 = 13 ∧ kd h (m a0 35) = 101 ∧ (0 : Int) ≤ a4 ∧ a4 < ln h (m a0 35) ∧ ((2 : Int) ≤ (m (m a0 35) a4) →
      kd h a0 = 13 ∧ kd h (m a0 40) = 101 ∧ (0 : Int) ≤ (w32 ((w32 (a3 + (-1))) - 1)) ∧ (w32 ((w32 (a3 + (-1))) - 1)) < ln h (m a0 40) ∧ kd h a0 = 13 ∧ kd h (m a0 40) = 101 ∧ (0 : Int) ≤ (w32 (a3 + (-1))) ∧ (w32 (a3 + (-1))) < ln h (m a0 40) ∧ ((m (m a0 35) a4) ≠ 5 →
        q_Mo_termOf_109 d a0 a2 (w32 (a3 + (-1))) a4 (m (m a0 35) a4) (m (m a0 40) (w32 ((w32 (a3 + (-1))) - 1))) (m (m a0 40) (w32 (a3 + (-1)))) m h Q) ∧
      (¬ ((m (m a0 35) a4) ≠ 5) →
        ((m (m a0 40) (w32 (a3 + (-1)))) ≠ 0 →
          q_Mo_termOf_109 d a0 a2 (w32 (a3 + (-1))) a4 (m (m a0 35) a4) (m (m a0 40) (w32 ((w32 (a3 + (-1))) - 1))) (m (m a0 40) (w32 (a3 + (-1)))) m h Q) ∧
        (¬ ((m (m a0 40) (w32 (a3 + (-1)))) ≠ 0) →
          ((1 : Int) = 0 ∨ (1 : Int) = 1) ∧ kd h a0 = 13 ∧ 0 < a0 ∧ ∀ m1, m1 = zwr m a0 41 1 →
          Q (some (.inl (0 : Int))) m1 h))) ∧
    (¬ ((2 : Int) ≤ (m (m a0 35) a4)) →
      kd h a0 = 13 ∧ ((m (m a0 35) a4) ≠ 0 →
        kd h a0 = 13 ∧ kd h a0 = 13 ∧ kd h (m a0 36) = 101 ∧ (0 : Int) ≤ a4 ∧ a4 < ln h (m a0 36) ∧ kd h (m a0 39) = 101 ∧ (0 : Int) ≤ (m (m a0 36) a4) ∧ (m (m a0 36) a4) < ln h (m a0 39) ∧ kd h (m a0 40) = 101 ∧ 0 < (m a0 40) ∧ (0 : Int) ≤ a3 ∧ a3 < ln h (m a0 40) ∧ ∀ m1, m1 = zwr m (m a0 40) a3 (m (m a0 39) (m (m a0 36) a4)) →
        q_Mo_termOf_10 d a0 a2 (w32 (a3 + 1)) (w32 (a4 + 1)) m1 h Q) ∧
      (¬ ((m (m a0 35) a4) ≠ 0) →
        kd h a0 = 13 ∧ kd h (m a0 36) = 101 ∧ (0 : Int) ≤ a4 ∧ a4 < ln h (m a0 36) ∧ kd h (m a0 40) = 101 ∧ 0 < (m a0 40) ∧ (0 : Int) ≤ a3 ∧ a3 < ln h (m a0 40) ∧ ∀ m1, m1 = zwr m (m a0 40) a3 (m (m a0 36) a4) →
        q_Mo_termOf_10 d a0 a2 (w32 (a3 + 1)) (w32 (a4 + 1)) m1 h Q)))) : q_Mo_termOf_10 d a0 a2 a3 a4 m h Q := zvc_ok zc_Mo_termOf zm_Mo_termOf 99 (fun _ => rfl) H
set_option maxRecDepth 100000 in
set_option maxHeartbeats 8000000 in
theorem s_Mo_termOf_109 (d : Nat) (a0 a2 a3 a4 a5 a6 a7 : Int) (m : zM) (h : zH) (Q : zQ) (H :
  kd h a0 = 13 ∧ (a5 ≠ 2 →
    (a5 ≠ 3 →
      (a5 ≠ 4 →
        a7 ≠ 0 ∧ kd h (m a0 40) = 101 ∧ 0 < (m a0 40) ∧ (0 : Int) ≤ (w32 (a3 - 1)) ∧ (w32 (a3 - 1)) < ln h (m a0 40) ∧ ∀ m1, m1 = zwr m (m a0 40) (w32 (a3 - 1)) (zdiv a6 a7) →
        q_Mo_termOf_10 d a0 a2 a3 (w32 (a4 + 1)) m1 h Q) ∧
      (¬ (a5 ≠ 4) →
        kd h (m a0 40) = 101 ∧ 0 < (m a0 40) ∧ (0 : Int) ≤ (w32 (a3 - 1)) ∧ (w32 (a3 - 1)) < ln h (m a0 40) ∧ ∀ m1, m1 = zwr m (m a0 40) (w32 (a3 - 1)) (w32 (a6 * a7)) →
        q_Mo_termOf_10 d a0 a2 a3 (w32 (a4 + 1)) m1 h Q)) ∧
    (¬ (a5 ≠ 3) →
      kd h (m a0 40) = 101 ∧ 0 < (m a0 40) ∧ (0 : Int) ≤ (w32 (a3 - 1)) ∧ (w32 (a3 - 1)) < ln h (m a0 40) ∧ ∀ m1, m1 = zwr m (m a0 40) (w32 (a3 - 1)) (w32 (a6 - a7)) →
      q_Mo_termOf_10 d a0 a2 a3 (w32 (a4 + 1)) m1 h Q)) ∧
  (¬ (a5 ≠ 2) →
    kd h (m a0 40) = 101 ∧ 0 < (m a0 40) ∧ (0 : Int) ≤ (w32 (a3 - 1)) ∧ (w32 (a3 - 1)) < ln h (m a0 40) ∧ ∀ m1, m1 = zwr m (m a0 40) (w32 (a3 - 1)) (w32 (a6 + a7)) →
    q_Mo_termOf_10 d a0 a2 a3 (w32 (a4 + 1)) m1 h Q)) : q_Mo_termOf_109 d a0 a2 a3 a4 a5 a6 a7 m h Q := zvc_ok zc_Mo_termOf zm_Mo_termOf 99 (fun _ => rfl) H
theorem e_Mo_termOf (d : Nat) (a0 a1 a2 : Int) (m : zM) (h : zH) (Q : zQ) (H : q_Mo_termOf_0 d a0 a1 a2 m h Q) : zcal WP (d + 1) n_Mo_termOf [.inr (.inr a0), .inl a1, .inl a2] m h Q := zcal_mk rfl H
def zm_Mo_isTrue : Nat → Option (List Bool) := fun pc => bif Nat.beq pc 56 then some [true, true, true, false, true, false] else (bif Nat.beq pc 139 then some [true, true, false, true, false, false] else (bif Nat.beq pc 155 then some [true, true, false, false, false, false] else (none)))
abbrev q_Mo_isTrue_0 (d : Nat) (a0 a1 : Int) (m : zM) (h : zH) (Q : zQ) : Prop := WP d n_Mo_isTrue 0 [some (.inr (.inr a0)), some (.inl a1), none, none, none, none] [] m h Q
abbrev q_Mo_isTrue_56 (d : Nat) (a0 a1 a2 a4 s0 : Int) (m : zM) (h : zH) (Q : zQ) : Prop := WP d n_Mo_isTrue 56 [some (.inr (.inr a0)), some (.inl a1), some (.inl a2), none, some (.inl a4), none] [.inl s0] m h Q
abbrev q_Mo_isTrue_139 (d : Nat) (a0 a1 a3 s0 : Int) (m : zM) (h : zH) (Q : zQ) : Prop := WP d n_Mo_isTrue 139 [some (.inr (.inr a0)), some (.inl a1), none, some (.inl a3), none, none] [.inl s0] m h Q
abbrev q_Mo_isTrue_155 (d : Nat) (a0 a1 s0 : Int) (m : zM) (h : zH) (Q : zQ) : Prop := WP d n_Mo_isTrue 155 [some (.inr (.inr a0)), some (.inl a1), none, none, none, none] [.inl s0] m h Q
set_option maxRecDepth 100000 in
set_option maxHeartbeats 8000000 in
theorem s_Mo_isTrue_0 (d : Nat) (a0 a1 : Int) (m : zM) (h : zH) (Q : zQ) (H :
  kd h a0 = 13 ∧ kd h (m a0 31) = 101 ∧ (0 : Int) ≤ a1 ∧ a1 < ln h (m a0 31) ∧ kd h a0 = 13 ∧ kd h (m a0 32) = 101 ∧ (0 : Int) ≤ a1 ∧ a1 < ln h (m a0 32) ∧ kd h a0 = 13 ∧ zcal WP d n_Mo_termOf [.inr (.inr a0), .inl (m (m a0 31) a1), .inl (m (m a0 32) a1)] m h (zk1 fun r1 m1 h1 =>
  kd h1 a0 = 13 ∧ kd h1 a0 = 13 ∧ kd h1 (m1 a0 32) = 101 ∧ (0 : Int) ≤ a1 ∧ a1 < ln h1 (m1 a0 32) ∧ kd h1 a0 = 13 ∧ kd h1 (m1 a0 33) = 101 ∧ (0 : Int) ≤ a1 ∧ a1 < ln h1 (m1 a0 33) ∧ kd h1 a0 = 13 ∧ zcal WP d n_Mo_termOf [.inr (.inr a0), .inl (m1 (m1 a0 32) a1), .inl (m1 (m1 a0 33) a1)] m1 h1 (zk1 fun r2 m2 h2 =>
  ((m1 a0 41) ≠ 0 →
    q_Mo_isTrue_56 d a0 a1 r1 r2 1 m2 h2 Q) ∧
  (¬ ((m1 a0 41) ≠ 0) →
    kd h2 a0 = 13 ∧ ((m2 a0 41) = 0 →
      q_Mo_isTrue_56 d a0 a1 r1 r2 0 m2 h2 Q) ∧
    (¬ ((m2 a0 41) = 0) →
      q_Mo_isTrue_56 d a0 a1 r1 r2 1 m2 h2 Q))))) : q_Mo_isTrue_0 d a0 a1 m h Q := zvc_ok zc_Mo_isTrue zm_Mo_isTrue 96 (fun _ => rfl) H
set_option maxRecDepth 100000 in
set_option maxHeartbeats 8000000 in
theorem s_Mo_isTrue_56 (d : Nat) (a0 a1 a2 a4 s0 : Int) (m : zM) (h : zH) (Q : zQ) (H :
  kd h a0 = 13 ∧ kd h (m a0 28) = 101 ∧ (0 : Int) ≤ a1 ∧ a1 < ln h (m a0 28) ∧ ((m (m a0 28) a1) ≠ 0 →
    kd h a0 = 13 ∧ kd h (m a0 28) = 101 ∧ (0 : Int) ≤ a1 ∧ a1 < ln h (m a0 28) ∧ ((m (m a0 28) a1) ≠ 1 →
      kd h a0 = 13 ∧ kd h (m a0 28) = 101 ∧ (0 : Int) ≤ a1 ∧ a1 < ln h (m a0 28) ∧ ((m (m a0 28) a1) ≠ 2 →
        (a4 < a2 →
          q_Mo_isTrue_139 d a0 a1 s0 0 m h Q) ∧
        (¬ (a4 < a2) →
          q_Mo_isTrue_139 d a0 a1 s0 1 m h Q)) ∧
      (¬ ((m (m a0 28) a1) ≠ 2) →
        (a4 ≤ a2 →
          q_Mo_isTrue_139 d a0 a1 s0 0 m h Q) ∧
        (¬ (a4 ≤ a2) →
          q_Mo_isTrue_139 d a0 a1 s0 1 m h Q))) ∧
    (¬ ((m (m a0 28) a1) ≠ 1) →
      (a2 = a4 →
        q_Mo_isTrue_139 d a0 a1 s0 0 m h Q) ∧
      (¬ (a2 = a4) →
        q_Mo_isTrue_139 d a0 a1 s0 1 m h Q))) ∧
  (¬ ((m (m a0 28) a1) ≠ 0) →
    (a2 ≠ a4 →
      q_Mo_isTrue_139 d a0 a1 s0 0 m h Q) ∧
    (¬ (a2 ≠ a4) →
      q_Mo_isTrue_139 d a0 a1 s0 1 m h Q))) : q_Mo_isTrue_56 d a0 a1 a2 a4 s0 m h Q := zvc_ok zc_Mo_isTrue zm_Mo_isTrue 96 (fun _ => rfl) H
set_option maxRecDepth 100000 in
set_option maxHeartbeats 8000000 in
theorem s_Mo_isTrue_139 (d : Nat) (a0 a1 a3 s0 : Int) (m : zM) (h : zH) (Q : zQ) (H :
  (s0 = 0 →
    q_Mo_isTrue_155 d a0 a1 0 m h Q) ∧
  (¬ (s0 = 0) →
    (a3 ≠ 0 →
      q_Mo_isTrue_155 d a0 a1 0 m h Q) ∧
    (¬ (a3 ≠ 0) →
      q_Mo_isTrue_155 d a0 a1 1 m h Q))) : q_Mo_isTrue_139 d a0 a1 a3 s0 m h Q := zvc_ok zc_Mo_isTrue zm_Mo_isTrue 96 (fun _ => rfl) H
set_option maxRecDepth 100000 in
set_option maxHeartbeats 8000000 in
theorem s_Mo_isTrue_155 (d : Nat) (a0 a1 s0 : Int) (m : zM) (h : zH) (Q : zQ) (H :
  kd h a0 = 13 ∧ kd h (m a0 29) = 103 ∧ (0 : Int) ≤ a1 ∧ a1 < ln h (m a0 29) ∧ (s0 = (m (m a0 29) a1) →
    ((0 : Int) = 0 ∨ (0 : Int) = 1) ∧ Q (some (.inl (0 : Int))) m h) ∧
  (¬ (s0 = (m (m a0 29) a1)) →
    ((1 : Int) = 0 ∨ (1 : Int) = 1) ∧ Q (some (.inl (1 : Int))) m h)) : q_Mo_isTrue_155 d a0 a1 s0 m h Q := zvc_ok zc_Mo_isTrue zm_Mo_isTrue 96 (fun _ => rfl) H
theorem e_Mo_isTrue (d : Nat) (a0 a1 : Int) (m : zM) (h : zH) (Q : zQ) (H : q_Mo_isTrue_0 d a0 a1 m h Q) : zcal WP (d + 1) n_Mo_isTrue [.inr (.inr a0), .inl a1] m h Q := zcal_mk rfl H
def zm_Mo_holds : Nat → Option (List Bool) := fun pc => bif Nat.beq pc 26 then some [true, true, true, true] else (bif Nat.beq pc 62 then some [true, true, true, true] else (none))
abbrev q_Mo_holds_0 (d : Nat) (a0 a1 : Int) (m : zM) (h : zH) (Q : zQ) : Prop := WP d n_Mo_holds 0 [some (.inr (.inr a0)), some (.inl a1), none, none] [] m h Q
abbrev q_Mo_holds_26 (d : Nat) (a0 a1 a2 a3 : Int) (m : zM) (h : zH) (Q : zQ) : Prop := WP d n_Mo_holds 26 [some (.inr (.inr a0)), some (.inl a1), some (.inl a2), some (.inl a3)] [] m h Q
abbrev q_Mo_holds_62 (d : Nat) (a0 a1 a2 a3 : Int) (m : zM) (h : zH) (Q : zQ) : Prop := WP d n_Mo_holds 62 [some (.inr (.inr a0)), some (.inl a1), some (.inl a2), some (.inl a3)] [] m h Q
set_option maxRecDepth 100000 in
set_option maxHeartbeats 8000000 in
theorem s_Mo_holds_0 (d : Nat) (a0 a1 : Int) (m : zM) (h : zH) (Q : zQ) (H :
  kd h a0 = 13 ∧ kd h (m a0 25) = 101 ∧ (0 : Int) ≤ a1 ∧ a1 < ln h (m a0 25) ∧ kd h a0 = 13 ∧ kd h (m a0 26) = 101 ∧ (0 : Int) ≤ a1 ∧ a1 < ln h (m a0 26) ∧ ((m (m a0 25) a1) ≠ (m (m a0 26) a1) →
    kd h a0 = 13 ∧ kd h (m a0 25) = 101 ∧ (0 : Int) ≤ a1 ∧ a1 < ln h (m a0 25) ∧ q_Mo_holds_26 d a0 a1 0 (m (m a0 25) a1) m h Q) ∧
  (¬ ((m (m a0 25) a1) ≠ (m (m a0 26) a1)) →
    ((1 : Int) = 0 ∨ (1 : Int) = 1) ∧ Q (some (.inl (1 : Int))) m h)) : q_Mo_holds_0 d a0 a1 m h Q := zvc_ok zc_Mo_holds zm_Mo_holds 55 (fun _ => rfl) H
set_option maxRecDepth 100000 in
set_option maxHeartbeats 8000000 in
theorem s_Mo_holds_26 (d : Nat) (a0 a1 a2 a3 : Int) (m : zM) (h : zH) (Q : zQ) (H :
  kd h a0 = 13 ∧ kd h (m a0 26) = 101 ∧ (0 : Int) ≤ a1 ∧ a1 < ln h (m a0 26) ∧ ((m (m a0 26) a1) ≤ a3 →
    (a2 = 0 ∨ a2 = 1) ∧ Q (some (.inl a2)) m h) ∧
  (¬ ((m (m a0 26) a1) ≤ a3) →
    kd h a0 = 13 ∧ kd h (m a0 30) = 103 ∧ (0 : Int) ≤ a3 ∧ a3 < ln h (m a0 30) ∧ ((m (m a0 30) a3) = 0 →
      kd h a0 = 13 ∧ kd h (m a0 30) = 103 ∧ (0 : Int) ≤ a3 ∧ a3 < ln h (m a0 30) ∧ ((m (m a0 30) a3) = 0 →
        q_Mo_holds_62 d a0 a1 a2 a3 m h Q) ∧
      (¬ ((m (m a0 30) a3) = 0) →
        q_Mo_holds_62 d a0 a1 1 a3 m h Q)) ∧
    (¬ ((m (m a0 30) a3) = 0) →
      (a2 = 0 →
        kd h a0 = 13 ∧ kd h (m a0 30) = 103 ∧ (0 : Int) ≤ a3 ∧ a3 < ln h (m a0 30) ∧ ((m (m a0 30) a3) = 0 →
          q_Mo_holds_62 d a0 a1 a2 a3 m h Q) ∧
        (¬ ((m (m a0 30) a3) = 0) →
          q_Mo_holds_62 d a0 a1 1 a3 m h Q)) ∧
      (¬ (a2 = 0) →
        ((1 : Int) = 0 ∨ (1 : Int) = 1) ∧ Q (some (.inl (1 : Int))) m h)))) : q_Mo_holds_26 d a0 a1 a2 a3 m h Q := zvc_ok zc_Mo_holds zm_Mo_holds 55 (fun _ => rfl) H
set_option maxRecDepth 100000 in
set_option maxHeartbeats 8000000 in
theorem s_Mo_holds_62 (d : Nat) (a0 a1 a2 a3 : Int) (m : zM) (h : zH) (Q : zQ) (H :
  (a2 = 0 →
    q_Mo_holds_26 d a0 a1 0 (w32 (a3 + 1)) m h Q) ∧
  (¬ (a2 = 0) →
    kd h a0 = 13 ∧ zcal WP d n_Mo_isTrue [.inr (.inr a0), .inl a3] m h (zk1 fun r1 m1 h1 =>
    (r1 = 0 →
      q_Mo_holds_26 d a0 a1 0 (w32 (a3 + 1)) m1 h1 Q) ∧
    (¬ (r1 = 0) →
      q_Mo_holds_26 d a0 a1 1 (w32 (a3 + 1)) m1 h1 Q)))) : q_Mo_holds_62 d a0 a1 a2 a3 m h Q := zvc_ok zc_Mo_holds zm_Mo_holds 55 (fun _ => rfl) H
theorem e_Mo_holds (d : Nat) (a0 a1 : Int) (m : zM) (h : zH) (Q : zQ) (H : q_Mo_holds_0 d a0 a1 m h Q) : zcal WP (d + 1) n_Mo_holds [.inr (.inr a0), .inl a1] m h Q := zcal_mk rfl H
def zm_Mo_forces : Nat → Option (List Bool) := fun pc => bif Nat.beq pc 21 then some [true, true, true, false, false] else (bif Nat.beq pc 28 then some [true, true, true, true, false] else (bif Nat.beq pc 55 then some [true, true, true, true, true] else (none)))
abbrev q_Mo_forces_0 (d : Nat) (a0 a1 : Int) (m : zM) (h : zH) (Q : zQ) : Prop := WP d n_Mo_forces 0 [some (.inr (.inr a0)), some (.inl a1), none, none, none] [] m h Q
abbrev q_Mo_forces_21 (d : Nat) (a0 a1 a2 : Int) (m : zM) (h : zH) (Q : zQ) : Prop := WP d n_Mo_forces 21 [some (.inr (.inr a0)), some (.inl a1), some (.inl a2), none, none] [] m h Q
abbrev q_Mo_forces_28 (d : Nat) (a0 a1 a2 a3 : Int) (m : zM) (h : zH) (Q : zQ) : Prop := WP d n_Mo_forces 28 [some (.inr (.inr a0)), some (.inl a1), some (.inl a2), some (.inl a3), none] [] m h Q
abbrev q_Mo_forces_55 (d : Nat) (a0 a1 a2 a3 a4 : Int) (m : zM) (h : zH) (Q : zQ) : Prop := WP d n_Mo_forces 55 [some (.inr (.inr a0)), some (.inl a1), some (.inl a2), some (.inl a3), some (.inl a4)] [] m h Q
set_option maxRecDepth 100000 in
set_option maxHeartbeats 8000000 in
theorem s_Mo_forces_0 (d : Nat) (a0 a1 : Int) (m : zM) (h : zH) (Q : zQ) (H :
  kd h a0 = 13 ∧ ((m a0 42) ≠ a1 →
    kd h a0 = 13 ∧ 0 < a0 ∧ ∀ m1, m1 = zwr m a0 42 a1 →
    kd h a0 = 13 ∧ 0 < a0 ∧ ∀ m2, m2 = zwr m1 a0 43 0 →
    q_Mo_forces_21 d a0 a1 0 m2 h Q) ∧
  (¬ ((m a0 42) ≠ a1) →
    Q none m h)) : q_Mo_forces_0 d a0 a1 m h Q := zvc_ok zc_Mo_forces zm_Mo_forces 54 (fun _ => rfl) H
set_option maxRecDepth 100000 in
set_option maxHeartbeats 8000000 in
theorem s_Mo_forces_21 (d : Nat) (a0 a1 a2 : Int) (m : zM) (h : zH) (Q : zQ) (H :
  (a1 < a2 →
    Q none m h) ∧
  (¬ (a1 < a2) →
    q_Mo_forces_28 d a0 a1 a2 0 m h Q)) : q_Mo_forces_21 d a0 a1 a2 m h Q := zvc_ok zc_Mo_forces zm_Mo_forces 54 (fun _ => rfl) H
set_option maxRecDepth 100000 in
set_option maxHeartbeats 8000000 in
theorem s_Mo_forces_28 (d : Nat) (a0 a1 a2 a3 : Int) (m : zM) (h : zH) (Q : zQ) (H :
  kd h a0 = 13 ∧ ((m a0 18) ≤ a3 →
    q_Mo_forces_21 d a0 a1 (w32 (a2 + 1)) m h Q) ∧
  (¬ ((m a0 18) ≤ a3) →
    kd h a0 = 13 ∧ kd h (m a0 19) = 101 ∧ (0 : Int) ≤ a3 ∧ a3 < ln h (m a0 19) ∧ ((m (m a0 19) a3) = a2 →
      q_Mo_forces_55 d a0 a1 a2 a3 (w32 (24 * a3)) m h Q) ∧
    (¬ ((m (m a0 19) a3) = a2) →
      q_Mo_forces_28 d a0 a1 a2 (w32 (a3 + 1)) m h Q))) : q_Mo_forces_28 d a0 a1 a2 a3 m h Q := zvc_ok zc_Mo_forces zm_Mo_forces 54 (fun _ => rfl) H
set_option maxRecDepth 100000 in
set_option maxHeartbeats 8000000 in
theorem s_Mo_forces_55 (d : Nat) (a0 a1 a2 a3 a4 : Int) (m : zM) (h : zH) (Q : zQ) (H :
  kd h a0 = 13 ∧ kd h (m a0 20) = 101 ∧ (0 : Int) ≤ a3 ∧ a3 < ln h (m a0 20) ∧ ((w32 ((w32 (24 * a3)) + (m (m a0 20) a3))) ≤ a4 →
    q_Mo_forces_28 d a0 a1 a2 (w32 (a3 + 1)) m h Q) ∧
  (¬ ((w32 ((w32 (24 * a3)) + (m (m a0 20) a3))) ≤ a4) →
    kd h a0 = 13 ∧ zcal WP d n_Mo_comes [.inr (.inr a0), .inl a4] m h (zk0 fun m1 h1 =>
    q_Mo_forces_55 d a0 a1 a2 a3 (w32 (a4 + 1)) m1 h1 Q))) : q_Mo_forces_55 d a0 a1 a2 a3 a4 m h Q := zvc_ok zc_Mo_forces zm_Mo_forces 54 (fun _ => rfl) H
theorem e_Mo_forces (d : Nat) (a0 a1 : Int) (m : zM) (h : zH) (Q : zQ) (H : q_Mo_forces_0 d a0 a1 m h Q) : zcal WP (d + 1) n_Mo_forces [.inr (.inr a0), .inl a1] m h Q := zcal_mk rfl H
def zm_Mo_comes : Nat → Option (List Bool) := fun pc => bif Nat.beq pc 4 then some [true, true, true, true] else (bif Nat.beq pc 69 then some [true, false, false, true] else (none))
abbrev q_Mo_comes_0 (d : Nat) (a0 a1 : Int) (m : zM) (h : zH) (Q : zQ) : Prop := WP d n_Mo_comes 0 [some (.inr (.inr a0)), some (.inl a1), none, none] [] m h Q
abbrev q_Mo_comes_4 (d : Nat) (a0 a1 a2 a3 : Int) (m : zM) (h : zH) (Q : zQ) : Prop := WP d n_Mo_comes 4 [some (.inr (.inr a0)), some (.inl a1), some (.inl a2), some (.inl a3)] [] m h Q
abbrev q_Mo_comes_69 (d : Nat) (a0 a3 : Int) (m : zM) (h : zH) (Q : zQ) : Prop := WP d n_Mo_comes 69 [some (.inr (.inr a0)), none, none, some (.inl a3)] [] m h Q
set_option maxRecDepth 100000 in
set_option maxHeartbeats 8000000 in
theorem s_Mo_comes_0 (d : Nat) (a0 a1 : Int) (m : zM) (h : zH) (Q : zQ) (H :
  q_Mo_comes_4 d a0 a1 ((-1)) 0 m h Q) : q_Mo_comes_0 d a0 a1 m h Q := zvc_ok zc_Mo_comes zm_Mo_comes 79 (fun _ => rfl) H
set_option maxRecDepth 100000 in
set_option maxHeartbeats 8000000 in
theorem s_Mo_comes_4 (d : Nat) (a0 a1 a2 a3 : Int) (m : zM) (h : zH) (Q : zQ) (H :
  kd h a0 = 13 ∧ ((m a0 43) ≤ a3 →
    kd h a0 = 13 ∧ kd h (m a0 21) = 101 ∧ (0 : Int) ≤ a1 ∧ a1 < ln h (m a0 21) ∧ ((m (m a0 21) a1) ≠ 5 →
      (a2 ≠ ((-1)) →
        kd h a0 = 13 ∧ kd h (m a0 44) = 101 ∧ 0 < (m a0 44) ∧ (0 : Int) ≤ a2 ∧ a2 < ln h (m a0 44) ∧ ∀ m1, m1 = zwr m (m a0 44) a2 a1 →
        Q none m1 h) ∧
      (¬ (a2 ≠ ((-1))) →
        kd h a0 = 13 ∧ kd h a0 = 13 ∧ kd h a0 = 13 ∧ 0 < a0 ∧ ∀ m1, m1 = zwr m a0 43 (w32 ((m a0 43) + 1)) →
        kd h a0 = 13 ∧ kd h (m1 a0 44) = 101 ∧ 0 < (m1 a0 44) ∧ (0 : Int) ≤ (m a0 43) ∧ (m a0 43) < ln h (m1 a0 44) ∧ ∀ m2, m2 = zwr m1 (m1 a0 44) (m a0 43) a1 →
        Q none m2 h)) ∧
    (¬ ((m (m a0 21) a1) ≠ 5) →
      (a2 ≠ ((-1)) →
        kd h a0 = 13 ∧ kd h a0 = 13 ∧ 0 < a0 ∧ ∀ m1, m1 = zwr m a0 43 (w32 ((m a0 43) - 1)) →
        q_Mo_comes_69 d a0 a2 m1 h Q) ∧
      (¬ (a2 ≠ ((-1))) →
        Q none m h))) ∧
  (¬ ((m a0 43) ≤ a3) →
    kd h a0 = 13 ∧ kd h a0 = 13 ∧ kd h (m a0 44) = 101 ∧ (0 : Int) ≤ a3 ∧ a3 < ln h (m a0 44) ∧ kd h (m a0 22) = 104 ∧ (0 : Int) ≤ (m (m a0 44) a3) ∧ (m (m a0 44) a3) < ln h (m a0 22) ∧ kd h a0 = 13 ∧ kd h (m a0 22) = 104 ∧ (0 : Int) ≤ a1 ∧ a1 < ln h (m a0 22) ∧ ((zlcmp (m (m a0 22) (m (m a0 44) a3)) (m (m a0 22) a1)) ≠ 0 →
      q_Mo_comes_4 d a0 a1 a2 (w32 (a3 + 1)) m h Q) ∧
    (¬ ((zlcmp (m (m a0 22) (m (m a0 44) a3)) (m (m a0 22) a1)) ≠ 0) →
      q_Mo_comes_4 d a0 a1 a3 (w32 (a3 + 1)) m h Q))) : q_Mo_comes_4 d a0 a1 a2 a3 m h Q := zvc_ok zc_Mo_comes zm_Mo_comes 79 (fun _ => rfl) H
set_option maxRecDepth 100000 in
set_option maxHeartbeats 8000000 in
theorem s_Mo_comes_69 (d : Nat) (a0 a3 : Int) (m : zM) (h : zH) (Q : zQ) (H :
  kd h a0 = 13 ∧ ((m a0 43) ≤ a3 →
    Q none m h) ∧
  (¬ ((m a0 43) ≤ a3) →
    kd h a0 = 13 ∧ kd h a0 = 13 ∧ kd h (m a0 44) = 101 ∧ (0 : Int) ≤ (w32 (a3 + 1)) ∧ (w32 (a3 + 1)) < ln h (m a0 44) ∧ kd h (m a0 44) = 101 ∧ 0 < (m a0 44) ∧ (0 : Int) ≤ a3 ∧ a3 < ln h (m a0 44) ∧ ∀ m1, m1 = zwr m (m a0 44) a3 (m (m a0 44) (w32 (a3 + 1))) →
    q_Mo_comes_69 d a0 (w32 (a3 + 1)) m1 h Q)) : q_Mo_comes_69 d a0 a3 m h Q := zvc_ok zc_Mo_comes zm_Mo_comes 79 (fun _ => rfl) H
theorem e_Mo_comes (d : Nat) (a0 a1 : Int) (m : zM) (h : zH) (Q : zQ) (H : q_Mo_comes_0 d a0 a1 m h Q) : zcal WP (d + 1) n_Mo_comes [.inr (.inr a0), .inl a1] m h Q := zcal_mk rfl H
def zm_Mo_first : Nat → Option (List Bool) := fun pc => bif Nat.beq pc 2 then some [true, true, true] else (none)
abbrev q_Mo_first_0 (d : Nat) (a0 a1 : Int) (m : zM) (h : zH) (Q : zQ) : Prop := WP d n_Mo_first 0 [some (.inr (.inr a0)), some (.inl a1), none] [] m h Q
abbrev q_Mo_first_2 (d : Nat) (a0 a1 a2 : Int) (m : zM) (h : zH) (Q : zQ) : Prop := WP d n_Mo_first 2 [some (.inr (.inr a0)), some (.inl a1), some (.inl a2)] [] m h Q
set_option maxRecDepth 100000 in
set_option maxHeartbeats 8000000 in
theorem s_Mo_first_0 (d : Nat) (a0 a1 : Int) (m : zM) (h : zH) (Q : zQ) (H :
  q_Mo_first_2 d a0 a1 0 m h Q) : q_Mo_first_0 d a0 a1 m h Q := zvc_ok zc_Mo_first zm_Mo_first 29 (fun _ => rfl) H
set_option maxRecDepth 100000 in
set_option maxHeartbeats 8000000 in
theorem s_Mo_first_2 (d : Nat) (a0 a1 a2 : Int) (m : zM) (h : zH) (Q : zQ) (H :
  kd h a0 = 13 ∧ ((m a0 43) ≤ a2 →
    Q (some (.inl ((-1)))) m h) ∧
  (¬ ((m a0 43) ≤ a2) →
    kd h a0 = 13 ∧ kd h a0 = 13 ∧ kd h (m a0 44) = 101 ∧ (0 : Int) ≤ a2 ∧ a2 < ln h (m a0 44) ∧ kd h (m a0 21) = 101 ∧ (0 : Int) ≤ (m (m a0 44) a2) ∧ (m (m a0 44) a2) < ln h (m a0 21) ∧ ((m (m a0 21) (m (m a0 44) a2)) ≠ a1 →
      q_Mo_first_2 d a0 a1 (w32 (a2 + 1)) m h Q) ∧
    (¬ ((m (m a0 21) (m (m a0 44) a2)) ≠ a1) →
      kd h a0 = 13 ∧ kd h (m a0 44) = 101 ∧ (0 : Int) ≤ a2 ∧ a2 < ln h (m a0 44) ∧ kd h a0 = 13 ∧ zcal WP d n_Mo_holds [.inr (.inr a0), .inl (m (m a0 44) a2)] m h (zk1 fun r1 m1 h1 =>
      (r1 = 0 →
        q_Mo_first_2 d a0 a1 (w32 (a2 + 1)) m1 h1 Q) ∧
      (¬ (r1 = 0) →
        Q (some (.inl a2)) m1 h1))))) : q_Mo_first_2 d a0 a1 a2 m h Q := zvc_ok zc_Mo_first zm_Mo_first 29 (fun _ => rfl) H
theorem e_Mo_first (d : Nat) (a0 a1 : Int) (m : zM) (h : zH) (Q : zQ) (H : q_Mo_first_0 d a0 a1 m h Q) : zcal WP (d + 1) n_Mo_first [.inr (.inr a0), .inl a1] m h Q := zcal_mk rfl H
def zm_Mo_tells : Nat → Option (List Bool) := fun pc => none
abbrev q_Mo_tells_0 (d : Nat) (a0 a1 a2 : Int) (m : zM) (h : zH) (Q : zQ) : Prop := WP d n_Mo_tells 0 [some (.inr (.inr a0)), some (.inl a1), some (.inl a2), none, none] [] m h Q
set_option maxRecDepth 100000 in
set_option maxHeartbeats 8000000 in
theorem s_Mo_tells_0 (d : Nat) (a0 a1 a2 : Int) (m : zM) (h : zH) (Q : zQ) (H :
  kd h a0 = 13 ∧ zcal WP d n_Mo_first [.inr (.inr a0), .inl a1] m h (zk1 fun r1 m1 h1 =>
  (r1 ≠ ((-1)) →
    kd h1 a0 = 13 ∧ kd h1 a0 = 13 ∧ kd h1 (m1 a0 44) = 101 ∧ (0 : Int) ≤ r1 ∧ r1 < ln h1 (m1 a0 44) ∧ kd h1 (m1 a0 23) = 101 ∧ (0 : Int) ≤ (m1 (m1 a0 44) r1) ∧ (m1 (m1 a0 44) r1) < ln h1 (m1 a0 23) ∧ kd h1 a0 = 13 ∧ kd h1 a0 = 13 ∧ kd h1 (m1 a0 44) = 101 ∧ (0 : Int) ≤ r1 ∧ r1 < ln h1 (m1 a0 44) ∧ kd h1 (m1 a0 24) = 101 ∧ (0 : Int) ≤ (m1 (m1 a0 44) r1) ∧ (m1 (m1 a0 44) r1) < ln h1 (m1 a0 24) ∧ kd h1 a0 = 13 ∧ zcal WP d n_Mo_termOf [.inr (.inr a0), .inl (m1 (m1 a0 23) (m1 (m1 a0 44) r1)), .inl (m1 (m1 a0 24) (m1 (m1 a0 44) r1))] m1 h1 (zk1 fun r2 m2 h2 =>
    ((0 : Int) ≤ r2 →
      (r2 ≤ a2 →
        Q (some (.inl r2)) m2 h2) ∧
      (¬ (r2 ≤ a2) →
        Q (some (.inl a2)) m2 h2)) ∧
    (¬ ((0 : Int) ≤ r2) →
      Q (some (.inl (0 : Int))) m2 h2))) ∧
  (¬ (r1 ≠ ((-1))) →
    Q (some (.inl (0 : Int))) m1 h1))) : q_Mo_tells_0 d a0 a1 a2 m h Q := zvc_ok zc_Mo_tells zm_Mo_tells 38 (fun _ => rfl) H
theorem e_Mo_tells (d : Nat) (a0 a1 a2 : Int) (m : zM) (h : zH) (Q : zQ) (H : q_Mo_tells_0 d a0 a1 a2 m h Q) : zcal WP (d + 1) n_Mo_tells [.inr (.inr a0), .inl a1, .inl a2] m h Q := zcal_mk rfl H
def zm_Mo_in : Nat → Option (List Bool) := fun pc => none
abbrev q_Mo_in_0 (d : Nat) (a0 a1 a2 : Int) (m : zM) (h : zH) (Q : zQ) : Prop := WP d n_Mo_in 0 [some (.inl a0), some (.inl a1), some (.inl a2)] [] m h Q
set_option maxRecDepth 100000 in
set_option maxHeartbeats 8000000 in
theorem s_Mo_in_0 (d : Nat) (a0 a1 a2 : Int) (m : zM) (h : zH) (Q : zQ) (H :
  (a0 < a1 →
    ((0 : Int) = 0 ∨ (0 : Int) = 1) ∧ Q (some (.inl (0 : Int))) m h) ∧
  (¬ (a0 < a1) →
    (a2 < a0 →
      ((0 : Int) = 0 ∨ (0 : Int) = 1) ∧ Q (some (.inl (0 : Int))) m h) ∧
    (¬ (a2 < a0) →
      ((1 : Int) = 0 ∨ (1 : Int) = 1) ∧ Q (some (.inl (1 : Int))) m h))) : q_Mo_in_0 d a0 a1 a2 m h Q := zvc_ok zc_Mo_in zm_Mo_in 11 (fun _ => rfl) H
theorem e_Mo_in (d : Nat) (a0 a1 a2 : Int) (m : zM) (h : zH) (Q : zQ) (H : q_Mo_in_0 d a0 a1 a2 m h Q) : zcal WP (d + 1) n_Mo_in [.inl a0, .inl a1, .inl a2] m h Q := zcal_mk rfl H
def zm_Mo_isDay : Nat → Option (List Bool) := fun pc => none
abbrev q_Mo_isDay_0 (d : Nat) (a0 : Int) (m : zM) (h : zH) (Q : zQ) : Prop := WP d n_Mo_isDay 0 [some (.inl a0)] [] m h Q
set_option maxRecDepth 100000 in
set_option maxHeartbeats 8000000 in
theorem s_Mo_isDay_0 (d : Nat) (a0 : Int) (m : zM) (h : zH) (Q : zQ) (H :
  zcal WP d n_Mo_in [.inl a0, .inl 0, .inl 119] m h (zk1 fun r1 m1 h1 =>
  (r1 = 0 ∨ r1 = 1) ∧ Q (some (.inl r1)) m1 h1)) : q_Mo_isDay_0 d a0 m h Q := zvc_ok zc_Mo_isDay zm_Mo_isDay 6 (fun _ => rfl) H
theorem e_Mo_isDay (d : Nat) (a0 : Int) (m : zM) (h : zH) (Q : zQ) (H : q_Mo_isDay_0 d a0 m h Q) : zcal WP (d + 1) n_Mo_isDay [.inl a0] m h Q := zcal_mk rfl H
def zm_Mo_rules : Nat → Option (List Bool) := fun pc => none
abbrev q_Mo_rules_0 (d : Nat) (a0 a1 : Int) (m : zM) (h : zH) (Q : zQ) : Prop := WP d n_Mo_rules 0 [some (.inr (.inr a0)), some (.inl a1)] [] m h Q
set_option maxRecDepth 100000 in
set_option maxHeartbeats 8000000 in
theorem s_Mo_rules_0 (d : Nat) (a0 a1 : Int) (m : zM) (h : zH) (Q : zQ) (H :
  zcal WP d n_Mo_isDay [.inl a1] m h (zk1 fun r1 m1 h1 =>
  (r1 ≠ 0 →
    kd h1 a0 = 13 ∧ zcal WP d n_Mo_forces [.inr (.inr a0), .inl a1] m1 h1 (zk0 fun m2 h2 =>
    kd h2 a0 = 13 ∧ Q (some (.inl (m2 a0 43))) m2 h2)) ∧
  (¬ (r1 ≠ 0) →
    Q (some (.inl ((-1)))) m1 h1))) : q_Mo_rules_0 d a0 a1 m h Q := zvc_ok zc_Mo_rules zm_Mo_rules 12 (fun _ => rfl) H
theorem e_Mo_rules (d : Nat) (a0 a1 : Int) (m : zM) (h : zH) (Q : zQ) (H : q_Mo_rules_0 d a0 a1 m h Q) : zcal WP (d + 1) n_Mo_rules [.inr (.inr a0), .inl a1] m h Q := zcal_mk rfl H
def zm_Mo_rule : Nat → Option (List Bool) := fun pc => none
abbrev q_Mo_rule_0 (d : Nat) (a0 a1 a2 a3 : Int) (m : zM) (h : zH) (Q : zQ) : Prop := WP d n_Mo_rule 0 [some (.inr (.inr a0)), some (.inl a1), some (.inl a2), some (.inl a3)] [] m h Q
set_option maxRecDepth 100000 in
set_option maxHeartbeats 8000000 in
theorem s_Mo_rule_0 (d : Nat) (a0 a1 a2 a3 : Int) (m : zM) (h : zH) (Q : zQ) (H :
  zcal WP d n_Mo_isDay [.inl a1] m h (zk1 fun r1 m1 h1 =>
  (r1 ≠ 0 →
    kd h1 a0 = 13 ∧ zcal WP d n_Mo_forces [.inr (.inr a0), .inl a1] m1 h1 (zk0 fun m2 h2 =>
    (a2 < 0 →
      Q (some (.inl ((-1)))) m2 h2) ∧
    (¬ (a2 < 0) →
      kd h2 a0 = 13 ∧ (a2 < (m2 a0 43) →
        (a3 ≠ 0 →
          (a3 ≠ 1 →
            (a3 ≠ 2 →
              Q (some (.inl ((-1)))) m2 h2) ∧
            (¬ (a3 ≠ 2) →
              kd h2 a0 = 13 ∧ kd h2 (m2 a0 44) = 101 ∧ (0 : Int) ≤ a2 ∧ a2 < ln h2 (m2 a0 44) ∧ (24 : Int) ≠ 0 ∧ Q (some (.inl (zrem (m2 (m2 a0 44) a2) 24))) m2 h2)) ∧
          (¬ (a3 ≠ 1) →
            kd h2 a0 = 13 ∧ kd h2 (m2 a0 44) = 101 ∧ (0 : Int) ≤ a2 ∧ a2 < ln h2 (m2 a0 44) ∧ (24 : Int) ≠ 0 ∧ Q (some (.inl (zdiv (m2 (m2 a0 44) a2) 24))) m2 h2)) ∧
        (¬ (a3 ≠ 0) →
          kd h2 a0 = 13 ∧ kd h2 a0 = 13 ∧ kd h2 (m2 a0 44) = 101 ∧ (0 : Int) ≤ a2 ∧ a2 < ln h2 (m2 a0 44) ∧ kd h2 (m2 a0 21) = 101 ∧ (0 : Int) ≤ (m2 (m2 a0 44) a2) ∧ (m2 (m2 a0 44) a2) < ln h2 (m2 a0 21) ∧ Q (some (.inl (m2 (m2 a0 21) (m2 (m2 a0 44) a2)))) m2 h2)) ∧
      (¬ (a2 < (m2 a0 43)) →
        Q (some (.inl ((-1)))) m2 h2)))) ∧
  (¬ (r1 ≠ 0) →
    Q (some (.inl ((-1)))) m1 h1))) : q_Mo_rule_0 d a0 a1 a2 a3 m h Q := zvc_ok zc_Mo_rule zm_Mo_rule 49 (fun _ => rfl) H
theorem e_Mo_rule (d : Nat) (a0 a1 a2 a3 : Int) (m : zM) (h : zH) (Q : zQ) (H : q_Mo_rule_0 d a0 a1 a2 a3 m h Q) : zcal WP (d + 1) n_Mo_rule [.inr (.inr a0), .inl a1, .inl a2, .inl a3] m h Q := zcal_mk rfl H
def zm_Mo_isShed : Nat → Option (List Bool) := fun pc => none
abbrev q_Mo_isShed_0 (d : Nat) (a0 a1 : Int) (m : zM) (h : zH) (Q : zQ) : Prop := WP d n_Mo_isShed 0 [some (.inr (.inr a0)), some (.inl a1)] [] m h Q
set_option maxRecDepth 100000 in
set_option maxHeartbeats 8000000 in
theorem s_Mo_isShed_0 (d : Nat) (a0 a1 : Int) (m : zM) (h : zH) (Q : zQ) (H :
  (a1 < 0 →
    ((0 : Int) = 0 ∨ (0 : Int) = 1) ∧ Q (some (.inl (0 : Int))) m h) ∧
  (¬ (a1 < 0) →
    kd h a0 = 13 ∧ ((m a0 45) ≤ a1 →
      ((0 : Int) = 0 ∨ (0 : Int) = 1) ∧ Q (some (.inl (0 : Int))) m h) ∧
    (¬ ((m a0 45) ≤ a1) →
      ((1 : Int) = 0 ∨ (1 : Int) = 1) ∧ Q (some (.inl (1 : Int))) m h))) : q_Mo_isShed_0 d a0 a1 m h Q := zvc_ok zc_Mo_isShed zm_Mo_isShed 11 (fun _ => rfl) H
theorem e_Mo_isShed (d : Nat) (a0 a1 : Int) (m : zM) (h : zH) (Q : zQ) (H : q_Mo_isShed_0 d a0 a1 m h Q) : zcal WP (d + 1) n_Mo_isShed [.inr (.inr a0), .inl a1] m h Q := zcal_mk rfl H
def zm_Mo_isEngine : Nat → Option (List Bool) := fun pc => none
abbrev q_Mo_isEngine_0 (d : Nat) (a0 a1 : Int) (m : zM) (h : zH) (Q : zQ) : Prop := WP d n_Mo_isEngine 0 [some (.inr (.inr a0)), some (.inl a1)] [] m h Q
set_option maxRecDepth 100000 in
set_option maxHeartbeats 8000000 in
theorem s_Mo_isEngine_0 (d : Nat) (a0 a1 : Int) (m : zM) (h : zH) (Q : zQ) (H :
  (a1 < 0 →
    ((0 : Int) = 0 ∨ (0 : Int) = 1) ∧ Q (some (.inl (0 : Int))) m h) ∧
  (¬ (a1 < 0) →
    kd h a0 = 13 ∧ ((m a0 47) ≤ a1 →
      ((0 : Int) = 0 ∨ (0 : Int) = 1) ∧ Q (some (.inl (0 : Int))) m h) ∧
    (¬ ((m a0 47) ≤ a1) →
      ((1 : Int) = 0 ∨ (1 : Int) = 1) ∧ Q (some (.inl (1 : Int))) m h))) : q_Mo_isEngine_0 d a0 a1 m h Q := zvc_ok zc_Mo_isEngine zm_Mo_isEngine 11 (fun _ => rfl) H
theorem e_Mo_isEngine (d : Nat) (a0 a1 : Int) (m : zM) (h : zH) (Q : zQ) (H : q_Mo_isEngine_0 d a0 a1 m h Q) : zcal WP (d + 1) n_Mo_isEngine [.inr (.inr a0), .inl a1] m h Q := zcal_mk rfl H
def zm_Mo_isTurn : Nat → Option (List Bool) := fun pc => none
abbrev q_Mo_isTurn_0 (d : Nat) (a0 a1 : Int) (m : zM) (h : zH) (Q : zQ) : Prop := WP d n_Mo_isTurn 0 [some (.inr (.inr a0)), some (.inl a1)] [] m h Q
set_option maxRecDepth 100000 in
set_option maxHeartbeats 8000000 in
theorem s_Mo_isTurn_0 (d : Nat) (a0 a1 : Int) (m : zM) (h : zH) (Q : zQ) (H :
  (a1 < 0 →
    ((0 : Int) = 0 ∨ (0 : Int) = 1) ∧ Q (some (.inl (0 : Int))) m h) ∧
  (¬ (a1 < 0) →
    kd h a0 = 13 ∧ ((m a0 52) ≤ a1 →
      ((0 : Int) = 0 ∨ (0 : Int) = 1) ∧ Q (some (.inl (0 : Int))) m h) ∧
    (¬ ((m a0 52) ≤ a1) →
      ((1 : Int) = 0 ∨ (1 : Int) = 1) ∧ Q (some (.inl (1 : Int))) m h))) : q_Mo_isTurn_0 d a0 a1 m h Q := zvc_ok zc_Mo_isTurn zm_Mo_isTurn 11 (fun _ => rfl) H
theorem e_Mo_isTurn (d : Nat) (a0 a1 : Int) (m : zM) (h : zH) (Q : zQ) (H : q_Mo_isTurn_0 d a0 a1 m h Q) : zcal WP (d + 1) n_Mo_isTurn [.inr (.inr a0), .inl a1] m h Q := zcal_mk rfl H
def zm_Mo_shed : Nat → Option (List Bool) := fun pc => none
abbrev q_Mo_shed_0 (d : Nat) (a0 : Int) (m : zM) (h : zH) (Q : zQ) : Prop := WP d n_Mo_shed 0 [some (.inr (.inr a0))] [] m h Q
set_option maxRecDepth 100000 in
set_option maxHeartbeats 8000000 in
theorem s_Mo_shed_0 (d : Nat) (a0 : Int) (m : zM) (h : zH) (Q : zQ) (H :
  kd h a0 = 13 ∧ ((m a0 45) ≠ 5 →
    kd h a0 = 13 ∧ kd h a0 = 13 ∧ 0 < a0 ∧ ∀ m1, m1 = zwr m a0 45 (w32 ((m a0 45) + 1)) →
    kd h a0 = 13 ∧ Q (some (.inl (w32 ((m1 a0 45) - 1)))) m1 h) ∧
  (¬ ((m a0 45) ≠ 5) →
    Q (some (.inl ((-1)))) m h)) : q_Mo_shed_0 d a0 m h Q := zvc_ok zc_Mo_shed zm_Mo_shed 18 (fun _ => rfl) H
theorem e_Mo_shed (d : Nat) (a0 : Int) (m : zM) (h : zH) (Q : zQ) (H : q_Mo_shed_0 d a0 m h Q) : zcal WP (d + 1) n_Mo_shed [.inr (.inr a0)] m h Q := zcal_mk rfl H
def zm_Mo_way : Nat → Option (List Bool) := fun pc => none
abbrev q_Mo_way_0 (d : Nat) (a0 a1 a2 a3 : Int) (m : zM) (h : zH) (Q : zQ) : Prop := WP d n_Mo_way 0 [some (.inr (.inr a0)), some (.inl a1), some (.inl a2), some (.inl a3)] [] m h Q
set_option maxRecDepth 100000 in
set_option maxHeartbeats 8000000 in
theorem s_Mo_way_0 (d : Nat) (a0 a1 a2 a3 : Int) (m : zM) (h : zH) (Q : zQ) (H :
  kd h a0 = 13 ∧ zcal WP d n_Mo_isShed [.inr (.inr a0), .inl a1] m h (zk1 fun r1 m1 h1 =>
  (r1 = 0 →
    ((0 : Int) = 0 ∨ (0 : Int) = 1) ∧ Q (some (.inl (0 : Int))) m1 h1) ∧
  (¬ (r1 = 0) →
    kd h1 a0 = 13 ∧ zcal WP d n_Mo_isShed [.inr (.inr a0), .inl a2] m1 h1 (zk1 fun r2 m2 h2 =>
    (r2 = 0 →
      ((0 : Int) = 0 ∨ (0 : Int) = 1) ∧ Q (some (.inl (0 : Int))) m2 h2) ∧
    (¬ (r2 = 0) →
      (a1 = a2 →
        ((0 : Int) = 0 ∨ (0 : Int) = 1) ∧ Q (some (.inl (0 : Int))) m2 h2) ∧
      (¬ (a1 = a2) →
        zcal WP d n_Mo_in [.inl a3, .inl 0, .inl 9] m2 h2 (zk1 fun r3 m3 h3 =>
        (r3 ≠ 0 →
          kd h3 a0 = 13 ∧ kd h3 (m3 a0 46) = 101 ∧ 0 < (m3 a0 46) ∧ (0 : Int) ≤ (w32 ((w32 (5 * a1)) + a2)) ∧ (w32 ((w32 (5 * a1)) + a2)) < ln h3 (m3 a0 46) ∧ ∀ m4, m4 = zwr m3 (m3 a0 46) (w32 ((w32 (5 * a1)) + a2)) a3 →
          kd h3 a0 = 13 ∧ kd h3 (m4 a0 46) = 101 ∧ 0 < (m4 a0 46) ∧ (0 : Int) ≤ (w32 ((w32 (5 * a2)) + a1)) ∧ (w32 ((w32 (5 * a2)) + a1)) < ln h3 (m4 a0 46) ∧ ∀ m5, m5 = zwr m4 (m4 a0 46) (w32 ((w32 (5 * a2)) + a1)) a3 →
          ((1 : Int) = 0 ∨ (1 : Int) = 1) ∧ Q (some (.inl (1 : Int))) m5 h3) ∧
        (¬ (r3 ≠ 0) →
          ((0 : Int) = 0 ∨ (0 : Int) = 1) ∧ Q (some (.inl (0 : Int))) m3 h3)))))))) : q_Mo_way_0 d a0 a1 a2 a3 m h Q := zvc_ok zc_Mo_way zm_Mo_way 39 (fun _ => rfl) H
theorem e_Mo_way (d : Nat) (a0 a1 a2 a3 : Int) (m : zM) (h : zH) (Q : zQ) (H : q_Mo_way_0 d a0 a1 a2 a3 m h Q) : zcal WP (d + 1) n_Mo_way [.inr (.inr a0), .inl a1, .inl a2, .inl a3] m h Q := zcal_mk rfl H
def zm_Mo_engine : Nat → Option (List Bool) := fun pc => none
abbrev q_Mo_engine_0 (d : Nat) (a0 a1 a2 : Int) (m : zM) (h : zH) (Q : zQ) : Prop := WP d n_Mo_engine 0 [some (.inr (.inr a0)), some (.inl a1), some (.inl a2)] [] m h Q
set_option maxRecDepth 100000 in
set_option maxHeartbeats 8000000 in
theorem s_Mo_engine_0 (d : Nat) (a0 a1 a2 : Int) (m : zM) (h : zH) (Q : zQ) (H :
  kd h a0 = 13 ∧ ((m a0 47) = 9 →
    Q (some (.inl ((-1)))) m h) ∧
  (¬ ((m a0 47) = 9) →
    zcal WP d n_Mo_in [.inl a1, .inl 0, .inl 5] m h (zk1 fun r1 m1 h1 =>
    (r1 = 0 →
      Q (some (.inl ((-1)))) m1 h1) ∧
    (¬ (r1 = 0) →
      kd h1 a0 = 13 ∧ zcal WP d n_Mo_isShed [.inr (.inr a0), .inl a2] m1 h1 (zk1 fun r2 m2 h2 =>
      (r2 ≠ 0 →
        kd h2 a0 = 13 ∧ kd h2 a0 = 13 ∧ kd h2 (m2 a0 48) = 101 ∧ 0 < (m2 a0 48) ∧ (0 : Int) ≤ (m2 a0 47) ∧ (m2 a0 47) < ln h2 (m2 a0 48) ∧ ∀ m3, m3 = zwr m2 (m2 a0 48) (m2 a0 47) a1 →
        kd h2 a0 = 13 ∧ kd h2 a0 = 13 ∧ kd h2 (m3 a0 49) = 101 ∧ 0 < (m3 a0 49) ∧ (0 : Int) ≤ (m3 a0 47) ∧ (m3 a0 47) < ln h2 (m3 a0 49) ∧ ∀ m4, m4 = zwr m3 (m3 a0 49) (m3 a0 47) a2 →
        kd h2 a0 = 13 ∧ kd h2 a0 = 13 ∧ 0 < a0 ∧ ∀ m5, m5 = zwr m4 a0 47 (w32 ((m4 a0 47) + 1)) →
        kd h2 a0 = 13 ∧ zcal WP d n_Mo_changed [.inr (.inr a0)] m5 h2 (zk0 fun m6 h6 =>
        kd h6 a0 = 13 ∧ Q (some (.inl (w32 ((m6 a0 47) - 1)))) m6 h6)) ∧
      (¬ (r2 ≠ 0) →
        Q (some (.inl ((-1)))) m2 h2)))))) : q_Mo_engine_0 d a0 a1 a2 m h Q := zvc_ok zc_Mo_engine zm_Mo_engine 41 (fun _ => rfl) H
theorem e_Mo_engine (d : Nat) (a0 a1 a2 : Int) (m : zM) (h : zH) (Q : zQ) (H : q_Mo_engine_0 d a0 a1 a2 m h Q) : zcal WP (d + 1) n_Mo_engine [.inr (.inr a0), .inl a1, .inl a2] m h Q := zcal_mk rfl H
def zm_Mo_man : Nat → Option (List Bool) := fun pc => none
abbrev q_Mo_man_0 (d : Nat) (a0 a1 : Int) (m : zM) (h : zH) (Q : zQ) : Prop := WP d n_Mo_man 0 [some (.inr (.inr a0)), some (.inl a1)] [] m h Q
set_option maxRecDepth 100000 in
set_option maxHeartbeats 8000000 in
theorem s_Mo_man_0 (d : Nat) (a0 a1 : Int) (m : zM) (h : zH) (Q : zQ) (H :
  kd h a0 = 13 ∧ ((m a0 50) = 8 →
    Q (some (.inl ((-1)))) m h) ∧
  (¬ ((m a0 50) = 8) →
    zcal WP d n_Mo_in [.inl a1, .inl 0, .inl 255] m h (zk1 fun r1 m1 h1 =>
    (r1 ≠ 0 →
      kd h1 a0 = 13 ∧ kd h1 a0 = 13 ∧ kd h1 (m1 a0 51) = 101 ∧ 0 < (m1 a0 51) ∧ (0 : Int) ≤ (m1 a0 50) ∧ (m1 a0 50) < ln h1 (m1 a0 51) ∧ ∀ m2, m2 = zwr m1 (m1 a0 51) (m1 a0 50) a1 →
      kd h1 a0 = 13 ∧ kd h1 a0 = 13 ∧ 0 < a0 ∧ ∀ m3, m3 = zwr m2 a0 50 (w32 ((m2 a0 50) + 1)) →
      kd h1 a0 = 13 ∧ Q (some (.inl (w32 ((m3 a0 50) - 1)))) m3 h1) ∧
    (¬ (r1 ≠ 0) →
      Q (some (.inl ((-1)))) m1 h1)))) : q_Mo_man_0 d a0 a1 m h Q := zvc_ok zc_Mo_man zm_Mo_man 29 (fun _ => rfl) H
theorem e_Mo_man (d : Nat) (a0 a1 : Int) (m : zM) (h : zH) (Q : zQ) (H : q_Mo_man_0 d a0 a1 m h Q) : zcal WP (d + 1) n_Mo_man [.inr (.inr a0), .inl a1] m h Q := zcal_mk rfl H
def zm_Mo_turn : Nat → Option (List Bool) := fun pc => bif Nat.beq pc 91 then some [true, true, true, true, true, true, true, true, true] else (bif Nat.beq pc 119 then some [true, false, false, true, true, true, true, true, true] else (bif Nat.beq pc 160 then some [true, false, false, false, false, false, true, true, true] else (none)))
abbrev q_Mo_turn_0 (d : Nat) (a0 a1 a2 a3 a4 a5 a6 a7 a8 : Int) (m : zM) (h : zH) (Q : zQ) : Prop := WP d n_Mo_turn 0 [some (.inr (.inr a0)), some (.inl a1), some (.inl a2), some (.inl a3), some (.inl a4), some (.inl a5), some (.inl a6), some (.inl a7), some (.inl a8)] [] m h Q
abbrev q_Mo_turn_91 (d : Nat) (a0 a1 a2 a3 a4 a5 a6 a7 a8 : Int) (m : zM) (h : zH) (Q : zQ) : Prop := WP d n_Mo_turn 91 [some (.inr (.inr a0)), some (.inl a1), some (.inl a2), some (.inl a3), some (.inl a4), some (.inl a5), some (.inl a6), some (.inl a7), some (.inl a8)] [] m h Q
abbrev q_Mo_turn_119 (d : Nat) (a0 a3 a4 a5 a6 a7 a8 s0 s1 s2 : Int) (m : zM) (h : zH) (Q : zQ) : Prop := WP d n_Mo_turn 119 [some (.inr (.inr a0)), none, none, some (.inl a3), some (.inl a4), some (.inl a5), some (.inl a6), some (.inl a7), some (.inl a8)] [.inl s0, .inl s1, .inr (.inr s2)] m h Q
abbrev q_Mo_turn_160 (d : Nat) (a0 a6 a7 a8 s0 s1 s2 : Int) (m : zM) (h : zH) (Q : zQ) : Prop := WP d n_Mo_turn 160 [some (.inr (.inr a0)), none, none, none, none, none, some (.inl a6), some (.inl a7), some (.inl a8)] [.inl s0, .inl s1, .inr (.inr s2)] m h Q
set_option maxRecDepth 100000 in
set_option maxHeartbeats 8000000 in
theorem s_Mo_turn_0 (d : Nat) (a0 a1 a2 a3 a4 a5 a6 a7 a8 : Int) (m : zM) (h : zH) (Q : zQ) (H :
  kd h a0 = 13 ∧ ((m a0 52) = 12 →
    Q (some (.inl ((-1)))) m h) ∧
  (¬ ((m a0 52) = 12) →
    kd h a0 = 13 ∧ zcal WP d n_Mo_isShed [.inr (.inr a0), .inl a1] m h (zk1 fun r1 m1 h1 =>
    (r1 = 0 →
      Q (some (.inl ((-1)))) m1 h1) ∧
    (¬ (r1 = 0) →
      zcal WP d n_Mo_in [.inl a3, .inl 0, .inl 23] m1 h1 (zk1 fun r2 m2 h2 =>
      (r2 = 0 →
        Q (some (.inl ((-1)))) m2 h2) ∧
      (¬ (r2 = 0) →
        zcal WP d n_Mo_in [.inl a4, .inl (w32 (a3 + 1)), .inl 24] m2 h2 (zk1 fun r3 m3 h3 =>
        (r3 = 0 →
          Q (some (.inl ((-1)))) m3 h3) ∧
        (¬ (r3 = 0) →
          zcal WP d n_Mo_in [.inl a6, .inl 0, .inl 99] m3 h3 (zk1 fun r4 m4 h4 =>
          (r4 = 0 →
            Q (some (.inl ((-1)))) m4 h4) ∧
          (¬ (r4 = 0) →
            zcal WP d n_Mo_in [.inl a7, .inl 0, .inl 7] m4 h4 (zk1 fun r5 m5 h5 =>
            (r5 ≠ 0 →
              (a8 ≠ 0 →
                q_Mo_turn_91 d a0 a1 a2 a3 a4 a5 a6 a7 a8 m5 h5 Q) ∧
              (¬ (a8 ≠ 0) →
                kd h5 a0 = 13 ∧ zcal WP d n_Mo_isShed [.inr (.inr a0), .inl a2] m5 h5 (zk1 fun r6 m6 h6 =>
                (r6 = 0 →
                  Q (some (.inl ((-1)))) m6 h6) ∧
                (¬ (r6 = 0) →
                  zcal WP d n_Mo_in [.inl a5, .inl 0, .inl 400] m6 h6 (zk1 fun r7 m7 h7 =>
                  (r7 ≠ 0 →
                    q_Mo_turn_91 d a0 a1 a2 a3 a4 a5 a6 a7 a8 m7 h7 Q) ∧
                  (¬ (r7 ≠ 0) →
                    Q (some (.inl ((-1)))) m7 h7)))))) ∧
            (¬ (r5 ≠ 0) →
              Q (some (.inl ((-1)))) m5 h5)))))))))))) : q_Mo_turn_0 d a0 a1 a2 a3 a4 a5 a6 a7 a8 m h Q := zvc_ok zc_Mo_turn zm_Mo_turn 113 (fun _ => rfl) H
set_option maxRecDepth 100000 in
set_option maxHeartbeats 8000000 in
theorem s_Mo_turn_91 (d : Nat) (a0 a1 a2 a3 a4 a5 a6 a7 a8 : Int) (m : zM) (h : zH) (Q : zQ) (H :
  kd h a0 = 13 ∧ kd h a0 = 13 ∧ kd h (m a0 53) = 101 ∧ 0 < (m a0 53) ∧ (0 : Int) ≤ (m a0 52) ∧ (m a0 52) < ln h (m a0 53) ∧ ∀ m1, m1 = zwr m (m a0 53) (m a0 52) a1 →
  kd h a0 = 13 ∧ kd h a0 = 13 ∧ (a8 = 0 →
    q_Mo_turn_119 d a0 a3 a4 a5 a6 a7 a8 a2 (m1 a0 52) (m1 a0 54) m1 h Q) ∧
  (¬ (a8 = 0) →
    q_Mo_turn_119 d a0 a3 a4 a5 a6 a7 a8 a1 (m1 a0 52) (m1 a0 54) m1 h Q)) : q_Mo_turn_91 d a0 a1 a2 a3 a4 a5 a6 a7 a8 m h Q := zvc_ok zc_Mo_turn zm_Mo_turn 113 (fun _ => rfl) H
set_option maxRecDepth 100000 in
set_option maxHeartbeats 8000000 in
theorem s_Mo_turn_119 (d : Nat) (a0 a3 a4 a5 a6 a7 a8 s0 s1 s2 : Int) (m : zM) (h : zH) (Q : zQ) (H :
  kd h s2 = 101 ∧ 0 < s2 ∧ (0 : Int) ≤ s1 ∧ s1 < ln h s2 ∧ ∀ m1, m1 = zwr m s2 s1 s0 →
  kd h a0 = 13 ∧ kd h a0 = 13 ∧ kd h (m1 a0 55) = 101 ∧ 0 < (m1 a0 55) ∧ (0 : Int) ≤ (m1 a0 52) ∧ (m1 a0 52) < ln h (m1 a0 55) ∧ ∀ m2, m2 = zwr m1 (m1 a0 55) (m1 a0 52) a3 →
  kd h a0 = 13 ∧ kd h a0 = 13 ∧ kd h (m2 a0 56) = 101 ∧ 0 < (m2 a0 56) ∧ (0 : Int) ≤ (m2 a0 52) ∧ (m2 a0 52) < ln h (m2 a0 56) ∧ ∀ m3, m3 = zwr m2 (m2 a0 56) (m2 a0 52) a4 →
  kd h a0 = 13 ∧ kd h a0 = 13 ∧ (a8 = 0 →
    q_Mo_turn_160 d a0 a6 a7 a8 a5 (m3 a0 52) (m3 a0 57) m3 h Q) ∧
  (¬ (a8 = 0) →
    q_Mo_turn_160 d a0 a6 a7 a8 0 (m3 a0 52) (m3 a0 57) m3 h Q)) : q_Mo_turn_119 d a0 a3 a4 a5 a6 a7 a8 s0 s1 s2 m h Q := zvc_ok zc_Mo_turn zm_Mo_turn 113 (fun _ => rfl) H
set_option maxRecDepth 100000 in
set_option maxHeartbeats 8000000 in
theorem s_Mo_turn_160 (d : Nat) (a0 a6 a7 a8 s0 s1 s2 : Int) (m : zM) (h : zH) (Q : zQ) (H :
  kd h s2 = 101 ∧ 0 < s2 ∧ (0 : Int) ≤ s1 ∧ s1 < ln h s2 ∧ ∀ m1, m1 = zwr m s2 s1 s0 →
  kd h a0 = 13 ∧ kd h a0 = 13 ∧ kd h (m1 a0 58) = 101 ∧ 0 < (m1 a0 58) ∧ (0 : Int) ≤ (m1 a0 52) ∧ (m1 a0 52) < ln h (m1 a0 58) ∧ ∀ m2, m2 = zwr m1 (m1 a0 58) (m1 a0 52) a6 →
  kd h a0 = 13 ∧ kd h a0 = 13 ∧ kd h (m2 a0 59) = 101 ∧ 0 < (m2 a0 59) ∧ (0 : Int) ≤ (m2 a0 52) ∧ (m2 a0 52) < ln h (m2 a0 59) ∧ ∀ m3, m3 = zwr m2 (m2 a0 59) (m2 a0 52) a7 →
  kd h a0 = 13 ∧ kd h a0 = 13 ∧ (a8 = 0 ∨ a8 = 1) ∧ kd h (m3 a0 60) = 103 ∧ 0 < (m3 a0 60) ∧ (0 : Int) ≤ (m3 a0 52) ∧ (m3 a0 52) < ln h (m3 a0 60) ∧ ∀ m4, m4 = zwr m3 (m3 a0 60) (m3 a0 52) a8 →
  kd h a0 = 13 ∧ kd h a0 = 13 ∧ 0 < a0 ∧ ∀ m5, m5 = zwr m4 a0 52 (w32 ((m4 a0 52) + 1)) →
  kd h a0 = 13 ∧ Q (some (.inl (w32 ((m5 a0 52) - 1)))) m5 h) : q_Mo_turn_160 d a0 a6 a7 a8 s0 s1 s2 m h Q := zvc_ok zc_Mo_turn zm_Mo_turn 113 (fun _ => rfl) H
theorem e_Mo_turn (d : Nat) (a0 a1 a2 a3 a4 a5 a6 a7 a8 : Int) (m : zM) (h : zH) (Q : zQ) (H : q_Mo_turn_0 d a0 a1 a2 a3 a4 a5 a6 a7 a8 m h Q) : zcal WP (d + 1) n_Mo_turn [.inr (.inr a0), .inl a1, .inl a2, .inl a3, .inl a4, .inl a5, .inl a6, .inl a7, .inl a8] m h Q := zcal_mk rfl H
def zm_Mo_changed : Nat → Option (List Bool) := fun pc => none
abbrev q_Mo_changed_0 (d : Nat) (a0 : Int) (m : zM) (h : zH) (Q : zQ) : Prop := WP d n_Mo_changed 0 [some (.inr (.inr a0))] [] m h Q
set_option maxRecDepth 100000 in
set_option maxHeartbeats 8000000 in
theorem s_Mo_changed_0 (d : Nat) (a0 : Int) (m : zM) (h : zH) (Q : zQ) (H :
  kd h a0 = 13 ∧ 0 < a0 ∧ ∀ m1, m1 = zwr m a0 67 ((-1)) →
  kd h a0 = 13 ∧ 0 < a0 ∧ ∀ m2, m2 = zwr m1 a0 42 ((-1)) →
  Q none m2 h) : q_Mo_changed_0 d a0 m h Q := zvc_ok zc_Mo_changed zm_Mo_changed 8 (fun _ => rfl) H
theorem e_Mo_changed (d : Nat) (a0 : Int) (m : zM) (h : zH) (Q : zQ) (H : q_Mo_changed_0 d a0 m h Q) : zcal WP (d + 1) n_Mo_changed [.inr (.inr a0)] m h Q := zcal_mk rfl H
def zm_Mo_tellsFact : Nat → Option (List Bool) := fun pc => none
abbrev q_Mo_tellsFact_0 (d : Nat) (a0 a1 a2 a3 a4 a5 : Int) (m : zM) (h : zH) (Q : zQ) : Prop := WP d n_Mo_tellsFact 0 [some (.inr (.inr a0)), some (.inl a1), some (.inl a2), some (.inl a3), some (.inl a4), some (.inl a5)] [] m h Q
set_option maxRecDepth 100000 in
set_option maxHeartbeats 8000000 in
theorem s_Mo_tellsFact_0 (d : Nat) (a0 a1 a2 a3 a4 a5 : Int) (m : zM) (h : zH) (Q : zQ) (H :
  kd h a0 = 13 ∧ kd h a0 = 13 ∧ kd h (m a0 62) = 101 ∧ 0 < (m a0 62) ∧ (0 : Int) ≤ (m a0 61) ∧ (m a0 61) < ln h (m a0 62) ∧ ∀ m1, m1 = zwr m (m a0 62) (m a0 61) a1 →
  kd h a0 = 13 ∧ kd h a0 = 13 ∧ kd h (m1 a0 63) = 101 ∧ 0 < (m1 a0 63) ∧ (0 : Int) ≤ (m1 a0 61) ∧ (m1 a0 61) < ln h (m1 a0 63) ∧ ∀ m2, m2 = zwr m1 (m1 a0 63) (m1 a0 61) a2 →
  kd h a0 = 13 ∧ kd h a0 = 13 ∧ kd h (m2 a0 64) = 101 ∧ 0 < (m2 a0 64) ∧ (0 : Int) ≤ (m2 a0 61) ∧ (m2 a0 61) < ln h (m2 a0 64) ∧ ∀ m3, m3 = zwr m2 (m2 a0 64) (m2 a0 61) a3 →
  kd h a0 = 13 ∧ kd h a0 = 13 ∧ kd h (m3 a0 65) = 101 ∧ 0 < (m3 a0 65) ∧ (0 : Int) ≤ (m3 a0 61) ∧ (m3 a0 61) < ln h (m3 a0 65) ∧ ∀ m4, m4 = zwr m3 (m3 a0 65) (m3 a0 61) a4 →
  kd h a0 = 13 ∧ kd h a0 = 13 ∧ kd h (m4 a0 66) = 101 ∧ 0 < (m4 a0 66) ∧ (0 : Int) ≤ (m4 a0 61) ∧ (m4 a0 61) < ln h (m4 a0 66) ∧ ∀ m5, m5 = zwr m4 (m4 a0 66) (m4 a0 61) a5 →
  kd h a0 = 13 ∧ kd h a0 = 13 ∧ 0 < a0 ∧ ∀ m6, m6 = zwr m5 a0 61 (w32 ((m5 a0 61) + 1)) →
  kd h a0 = 13 ∧ Q (some (.inl (w32 ((m6 a0 61) - 1)))) m6 h) : q_Mo_tellsFact_0 d a0 a1 a2 a3 a4 a5 m h Q := zvc_ok zc_Mo_tellsFact zm_Mo_tellsFact 42 (fun _ => rfl) H
theorem e_Mo_tellsFact (d : Nat) (a0 a1 a2 a3 a4 a5 : Int) (m : zM) (h : zH) (Q : zQ) (H : q_Mo_tellsFact_0 d a0 a1 a2 a3 a4 a5 m h Q) : zcal WP (d + 1) n_Mo_tellsFact [.inr (.inr a0), .inl a1, .inl a2, .inl a3, .inl a4, .inl a5] m h Q := zcal_mk rfl H
def zm_Mo_run : Nat → Option (List Bool) := fun pc => none
abbrev q_Mo_run_0 (d : Nat) (a0 a1 a2 a3 a4 : Int) (m : zM) (h : zH) (Q : zQ) : Prop := WP d n_Mo_run 0 [some (.inr (.inr a0)), some (.inl a1), some (.inl a2), some (.inl a3), some (.inl a4)] [] m h Q
set_option maxRecDepth 100000 in
set_option maxHeartbeats 8000000 in
theorem s_Mo_run_0 (d : Nat) (a0 a1 a2 a3 a4 : Int) (m : zM) (h : zH) (Q : zQ) (H :
  kd h a0 = 13 ∧ ((m a0 61) = 180 →
    Q (some (.inl ((-1)))) m h) ∧
  (¬ ((m a0 61) = 180) →
    kd h a0 = 13 ∧ zcal WP d n_Mo_isEngine [.inr (.inr a0), .inl a1] m h (zk1 fun r1 m1 h1 =>
    (r1 = 0 →
      Q (some (.inl ((-1)))) m1 h1) ∧
    (¬ (r1 = 0) →
      kd h1 a0 = 13 ∧ zcal WP d n_Mo_isTurn [.inr (.inr a0), .inl a2] m1 h1 (zk1 fun r2 m2 h2 =>
      (r2 = 0 →
        Q (some (.inl ((-1)))) m2 h2) ∧
      (¬ (r2 = 0) →
        (a3 < 0 →
          Q (some (.inl ((-1)))) m2 h2) ∧
        (¬ (a3 < 0) →
          kd h2 a0 = 13 ∧ ((m2 a0 50) ≤ a3 →
            Q (some (.inl ((-1)))) m2 h2) ∧
          (¬ ((m2 a0 50) ≤ a3) →
            zcal WP d n_Mo_isDay [.inl a4] m2 h2 (zk1 fun r3 m3 h3 =>
            (r3 ≠ 0 →
              kd h3 a0 = 13 ∧ zcal WP d n_Mo_tellsFact [.inr (.inr a0), .inl 8, .inl a4, .inl a1, .inl a2, .inl a3] m3 h3 (zk1 fun r4 m4 h4 =>
              Q (some (.inl r4)) m4 h4)) ∧
            (¬ (r3 ≠ 0) →
              Q (some (.inl ((-1)))) m3 h3)))))))))) : q_Mo_run_0 d a0 a1 a2 a3 a4 m h Q := zvc_ok zc_Mo_run zm_Mo_run 32 (fun _ => rfl) H
theorem e_Mo_run (d : Nat) (a0 a1 a2 a3 a4 : Int) (m : zM) (h : zH) (Q : zQ) (H : q_Mo_run_0 d a0 a1 a2 a3 a4 m h Q) : zcal WP (d + 1) n_Mo_run [.inr (.inr a0), .inl a1, .inl a2, .inl a3, .inl a4] m h Q := zcal_mk rfl H
def zm_Mo_mile : Nat → Option (List Bool) := fun pc => none
abbrev q_Mo_mile_0 (d : Nat) (a0 a1 a2 : Int) (m : zM) (h : zH) (Q : zQ) : Prop := WP d n_Mo_mile 0 [some (.inr (.inr a0)), some (.inl a1), some (.inl a2)] [] m h Q
set_option maxRecDepth 100000 in
set_option maxHeartbeats 8000000 in
theorem s_Mo_mile_0 (d : Nat) (a0 a1 a2 : Int) (m : zM) (h : zH) (Q : zQ) (H :
  kd h a0 = 13 ∧ ((m a0 61) = 180 →
    Q (some (.inl ((-1)))) m h) ∧
  (¬ ((m a0 61) = 180) →
    (a1 < 0 →
      Q (some (.inl ((-1)))) m h) ∧
    (¬ (a1 < 0) →
      kd h a0 = 13 ∧ ((m a0 61) ≤ a1 →
        Q (some (.inl ((-1)))) m h) ∧
      (¬ ((m a0 61) ≤ a1) →
        kd h a0 = 13 ∧ kd h (m a0 62) = 101 ∧ (0 : Int) ≤ a1 ∧ a1 < ln h (m a0 62) ∧ ((m (m a0 62) a1) ≠ 8 →
          Q (some (.inl ((-1)))) m h) ∧
        (¬ ((m (m a0 62) a1) ≠ 8) →
          zcal WP d n_Mo_in [.inl a2, .inl 0, .inl 9999] m h (zk1 fun r1 m1 h1 =>
          (r1 ≠ 0 →
            kd h1 a0 = 13 ∧ zcal WP d n_Mo_tellsFact [.inr (.inr a0), .inl 9, .inl ((-1)), .inl ((-1)), .inl a1, .inl a2] m1 h1 (zk1 fun r2 m2 h2 =>
            Q (some (.inl r2)) m2 h2)) ∧
          (¬ (r1 ≠ 0) →
            Q (some (.inl ((-1)))) m1 h1))))))) : q_Mo_mile_0 d a0 a1 a2 m h Q := zvc_ok zc_Mo_mile zm_Mo_mile 32 (fun _ => rfl) H
theorem e_Mo_mile (d : Nat) (a0 a1 a2 : Int) (m : zM) (h : zH) (Q : zQ) (H : q_Mo_mile_0 d a0 a1 a2 m h Q) : zcal WP (d + 1) n_Mo_mile [.inr (.inr a0), .inl a1, .inl a2] m h Q := zcal_mk rfl H
def zm_Mo_fact : Nat → Option (List Bool) := fun pc => none
abbrev q_Mo_fact_0 (d : Nat) (a0 a1 a2 a3 : Int) (m : zM) (h : zH) (Q : zQ) : Prop := WP d n_Mo_fact 0 [some (.inr (.inr a0)), some (.inl a1), some (.inl a2), some (.inl a3)] [] m h Q
set_option maxRecDepth 100000 in
set_option maxHeartbeats 8000000 in
theorem s_Mo_fact_0 (d : Nat) (a0 a1 a2 a3 : Int) (m : zM) (h : zH) (Q : zQ) (H :
  kd h a0 = 13 ∧ ((m a0 61) = 180 →
    Q (some (.inl ((-1)))) m h) ∧
  (¬ ((m a0 61) = 180) →
    zcal WP d n_Mo_in [.inl a1, .inl 0, .inl 3] m h (zk1 fun r1 m1 h1 =>
    (r1 = 0 →
      Q (some (.inl ((-1)))) m1 h1) ∧
    (¬ (r1 = 0) →
      kd h1 a0 = 13 ∧ zcal WP d n_Mo_isEngine [.inr (.inr a0), .inl a2] m1 h1 (zk1 fun r2 m2 h2 =>
      (r2 = 0 →
        Q (some (.inl ((-1)))) m2 h2) ∧
      (¬ (r2 = 0) →
        zcal WP d n_Mo_isDay [.inl a3] m2 h2 (zk1 fun r3 m3 h3 =>
        (r3 ≠ 0 →
          kd h3 a0 = 13 ∧ zcal WP d n_Mo_tellsFact [.inr (.inr a0), .inl a1, .inl a3, .inl a2, .inl 0, .inl 0] m3 h3 (zk1 fun r4 m4 h4 =>
          Q (some (.inl r4)) m4 h4)) ∧
        (¬ (r3 ≠ 0) →
          Q (some (.inl ((-1)))) m3 h3)))))))) : q_Mo_fact_0 d a0 a1 a2 a3 m h Q := zvc_ok zc_Mo_fact zm_Mo_fact 27 (fun _ => rfl) H
theorem e_Mo_fact (d : Nat) (a0 a1 a2 a3 : Int) (m : zM) (h : zH) (Q : zQ) (H : q_Mo_fact_0 d a0 a1 a2 a3 m h Q) : zcal WP (d + 1) n_Mo_fact [.inr (.inr a0), .inl a1, .inl a2, .inl a3] m h Q := zcal_mk rfl H
def zm_Mo_shops : Nat → Option (List Bool) := fun pc => none
abbrev q_Mo_shops_0 (d : Nat) (a0 a1 a2 a3 : Int) (m : zM) (h : zH) (Q : zQ) : Prop := WP d n_Mo_shops 0 [some (.inr (.inr a0)), some (.inl a1), some (.inl a2), some (.inl a3)] [] m h Q
set_option maxRecDepth 100000 in
set_option maxHeartbeats 8000000 in
theorem s_Mo_shops_0 (d : Nat) (a0 a1 a2 a3 : Int) (m : zM) (h : zH) (Q : zQ) (H :
  kd h a0 = 13 ∧ ((m a0 61) = 180 →
    Q (some (.inl ((-1)))) m h) ∧
  (¬ ((m a0 61) = 180) →
    kd h a0 = 13 ∧ zcal WP d n_Mo_isEngine [.inr (.inr a0), .inl a1] m h (zk1 fun r1 m1 h1 =>
    (r1 = 0 →
      Q (some (.inl ((-1)))) m1 h1) ∧
    (¬ (r1 = 0) →
      zcal WP d n_Mo_isDay [.inl a2] m1 h1 (zk1 fun r2 m2 h2 =>
      (r2 = 0 →
        Q (some (.inl ((-1)))) m2 h2) ∧
      (¬ (r2 = 0) →
        zcal WP d n_Mo_isDay [.inl a3] m2 h2 (zk1 fun r3 m3 h3 =>
        (r3 ≠ 0 →
          kd h3 a0 = 13 ∧ zcal WP d n_Mo_tellsFact [.inr (.inr a0), .inl 4, .inl a2, .inl a1, .inl a3, .inl 0] m3 h3 (zk1 fun r4 m4 h4 =>
          Q (some (.inl r4)) m4 h4)) ∧
        (¬ (r3 ≠ 0) →
          Q (some (.inl ((-1)))) m3 h3)))))))) : q_Mo_shops_0 d a0 a1 a2 a3 m h Q := zvc_ok zc_Mo_shops zm_Mo_shops 25 (fun _ => rfl) H
theorem e_Mo_shops (d : Nat) (a0 a1 a2 a3 : Int) (m : zM) (h : zH) (Q : zQ) (H : q_Mo_shops_0 d a0 a1 a2 a3 m h Q) : zcal WP (d + 1) n_Mo_shops [.inr (.inr a0), .inl a1, .inl a2, .inl a3] m h Q := zcal_mk rfl H
def zm_Mo_fails : Nat → Option (List Bool) := fun pc => none
abbrev q_Mo_fails_0 (d : Nat) (a0 a1 a2 a3 : Int) (m : zM) (h : zH) (Q : zQ) : Prop := WP d n_Mo_fails 0 [some (.inr (.inr a0)), some (.inl a1), some (.inl a2), some (.inl a3)] [] m h Q
set_option maxRecDepth 100000 in
set_option maxHeartbeats 8000000 in
theorem s_Mo_fails_0 (d : Nat) (a0 a1 a2 a3 : Int) (m : zM) (h : zH) (Q : zQ) (H :
  kd h a0 = 13 ∧ ((m a0 61) = 180 →
    Q (some (.inl ((-1)))) m h) ∧
  (¬ ((m a0 61) = 180) →
    kd h a0 = 13 ∧ zcal WP d n_Mo_isEngine [.inr (.inr a0), .inl a1] m h (zk1 fun r1 m1 h1 =>
    (r1 = 0 →
      Q (some (.inl ((-1)))) m1 h1) ∧
    (¬ (r1 = 0) →
      zcal WP d n_Mo_isDay [.inl a2] m1 h1 (zk1 fun r2 m2 h2 =>
      (r2 = 0 →
        Q (some (.inl ((-1)))) m2 h2) ∧
      (¬ (r2 = 0) →
        zcal WP d n_Mo_in [.inl a3, .inl 0, .inl 23] m2 h2 (zk1 fun r3 m3 h3 =>
        (r3 ≠ 0 →
          kd h3 a0 = 13 ∧ zcal WP d n_Mo_tellsFact [.inr (.inr a0), .inl 5, .inl a2, .inl a1, .inl a3, .inl 0] m3 h3 (zk1 fun r4 m4 h4 =>
          Q (some (.inl r4)) m4 h4)) ∧
        (¬ (r3 ≠ 0) →
          Q (some (.inl ((-1)))) m3 h3)))))))) : q_Mo_fails_0 d a0 a1 a2 a3 m h Q := zvc_ok zc_Mo_fails zm_Mo_fails 27 (fun _ => rfl) H
theorem e_Mo_fails (d : Nat) (a0 a1 a2 a3 : Int) (m : zM) (h : zH) (Q : zQ) (H : q_Mo_fails_0 d a0 a1 a2 a3 m h Q) : zcal WP (d + 1) n_Mo_fails [.inr (.inr a0), .inl a1, .inl a2, .inl a3] m h Q := zcal_mk rfl H
def zm_Mo_lent : Nat → Option (List Bool) := fun pc => none
abbrev q_Mo_lent_0 (d : Nat) (a0 a1 a2 a3 : Int) (m : zM) (h : zH) (Q : zQ) : Prop := WP d n_Mo_lent 0 [some (.inr (.inr a0)), some (.inl a1), some (.inl a2), some (.inl a3)] [] m h Q
set_option maxRecDepth 100000 in
set_option maxHeartbeats 8000000 in
theorem s_Mo_lent_0 (d : Nat) (a0 a1 a2 a3 : Int) (m : zM) (h : zH) (Q : zQ) (H :
  kd h a0 = 13 ∧ ((m a0 61) = 180 →
    Q (some (.inl ((-1)))) m h) ∧
  (¬ ((m a0 61) = 180) →
    kd h a0 = 13 ∧ zcal WP d n_Mo_isEngine [.inr (.inr a0), .inl a1] m h (zk1 fun r1 m1 h1 =>
    (r1 = 0 →
      Q (some (.inl ((-1)))) m1 h1) ∧
    (¬ (r1 = 0) →
      kd h1 a0 = 13 ∧ zcal WP d n_Mo_isShed [.inr (.inr a0), .inl a2] m1 h1 (zk1 fun r2 m2 h2 =>
      (r2 = 0 →
        Q (some (.inl ((-1)))) m2 h2) ∧
      (¬ (r2 = 0) →
        zcal WP d n_Mo_isDay [.inl a3] m2 h2 (zk1 fun r3 m3 h3 =>
        (r3 ≠ 0 →
          kd h3 a0 = 13 ∧ zcal WP d n_Mo_tellsFact [.inr (.inr a0), .inl 6, .inl a3, .inl a1, .inl a2, .inl 0] m3 h3 (zk1 fun r4 m4 h4 =>
          Q (some (.inl r4)) m4 h4)) ∧
        (¬ (r3 ≠ 0) →
          Q (some (.inl ((-1)))) m3 h3)))))))) : q_Mo_lent_0 d a0 a1 a2 a3 m h Q := zvc_ok zc_Mo_lent zm_Mo_lent 26 (fun _ => rfl) H
theorem e_Mo_lent (d : Nat) (a0 a1 a2 a3 : Int) (m : zM) (h : zH) (Q : zQ) (H : q_Mo_lent_0 d a0 a1 a2 a3 m h Q) : zcal WP (d + 1) n_Mo_lent [.inr (.inr a0), .inl a1, .inl a2, .inl a3] m h Q := zcal_mk rfl H
def zm_Mo_coals : Nat → Option (List Bool) := fun pc => none
abbrev q_Mo_coals_0 (d : Nat) (a0 a1 a2 a3 : Int) (m : zM) (h : zH) (Q : zQ) : Prop := WP d n_Mo_coals 0 [some (.inr (.inr a0)), some (.inl a1), some (.inl a2), some (.inl a3)] [] m h Q
set_option maxRecDepth 100000 in
set_option maxHeartbeats 8000000 in
theorem s_Mo_coals_0 (d : Nat) (a0 a1 a2 a3 : Int) (m : zM) (h : zH) (Q : zQ) (H :
  kd h a0 = 13 ∧ ((m a0 61) = 180 →
    Q (some (.inl ((-1)))) m h) ∧
  (¬ ((m a0 61) = 180) →
    kd h a0 = 13 ∧ zcal WP d n_Mo_isShed [.inr (.inr a0), .inl a1] m h (zk1 fun r1 m1 h1 =>
    (r1 = 0 →
      Q (some (.inl ((-1)))) m1 h1) ∧
    (¬ (r1 = 0) →
      zcal WP d n_Mo_isDay [.inl a2] m1 h1 (zk1 fun r2 m2 h2 =>
      (r2 = 0 →
        Q (some (.inl ((-1)))) m2 h2) ∧
      (¬ (r2 = 0) →
        zcal WP d n_Mo_in [.inl a3, .inl 0, .inl 9999] m2 h2 (zk1 fun r3 m3 h3 =>
        (r3 ≠ 0 →
          kd h3 a0 = 13 ∧ zcal WP d n_Mo_tellsFact [.inr (.inr a0), .inl 7, .inl a2, .inl ((-1)), .inl a1, .inl a3] m3 h3 (zk1 fun r4 m4 h4 =>
          Q (some (.inl r4)) m4 h4)) ∧
        (¬ (r3 ≠ 0) →
          Q (some (.inl ((-1)))) m3 h3)))))))) : q_Mo_coals_0 d a0 a1 a2 a3 m h Q := zvc_ok zc_Mo_coals zm_Mo_coals 27 (fun _ => rfl) H
theorem e_Mo_coals (d : Nat) (a0 a1 a2 a3 : Int) (m : zM) (h : zH) (Q : zQ) (H : q_Mo_coals_0 d a0 a1 a2 a3 m h Q) : zcal WP (d + 1) n_Mo_coals [.inr (.inr a0), .inl a1, .inl a2, .inl a3] m h Q := zcal_mk rfl H
def zm_Mo_isKnown : Nat → Option (List Bool) := fun pc => none
abbrev q_Mo_isKnown_0 (d : Nat) (a0 a1 : Int) (m : zM) (h : zH) (Q : zQ) : Prop := WP d n_Mo_isKnown 0 [some (.inr (.inr a0)), some (.inl a1)] [] m h Q
set_option maxRecDepth 100000 in
set_option maxHeartbeats 8000000 in
theorem s_Mo_isKnown_0 (d : Nat) (a0 a1 : Int) (m : zM) (h : zH) (Q : zQ) (H :
  (a1 < 0 →
    ((0 : Int) = 0 ∨ (0 : Int) = 1) ∧ Q (some (.inl (0 : Int))) m h) ∧
  (¬ (a1 < 0) →
    kd h a0 = 13 ∧ ((m a0 61) < a1 →
      ((0 : Int) = 0 ∨ (0 : Int) = 1) ∧ Q (some (.inl (0 : Int))) m h) ∧
    (¬ ((m a0 61) < a1) →
      ((1 : Int) = 0 ∨ (1 : Int) = 1) ∧ Q (some (.inl (1 : Int))) m h))) : q_Mo_isKnown_0 d a0 a1 m h Q := zvc_ok zc_Mo_isKnown zm_Mo_isKnown 11 (fun _ => rfl) H
theorem e_Mo_isKnown (d : Nat) (a0 a1 : Int) (m : zM) (h : zH) (Q : zQ) (H : q_Mo_isKnown_0 d a0 a1 m h Q) : zcal WP (d + 1) n_Mo_isKnown [.inr (.inr a0), .inl a1] m h Q := zcal_mk rfl H
def zm_Mo_goes : Nat → Option (List Bool) := fun pc => bif Nat.beq pc 16 then some [true, true, true, false] else (bif Nat.beq pc 91 then some [true, true, true, false] else (bif Nat.beq pc 109 then some [true, true, true, true] else (none)))
abbrev q_Mo_goes_0 (d : Nat) (a0 a1 : Int) (m : zM) (h : zH) (Q : zQ) : Prop := WP d n_Mo_goes 0 [some (.inr (.inr a0)), some (.inl a1), none, none] [] m h Q
abbrev q_Mo_goes_16 (d : Nat) (a0 a1 a2 : Int) (m : zM) (h : zH) (Q : zQ) : Prop := WP d n_Mo_goes 16 [some (.inr (.inr a0)), some (.inl a1), some (.inl a2), none] [] m h Q
abbrev q_Mo_goes_91 (d : Nat) (a0 a1 a2 : Int) (m : zM) (h : zH) (Q : zQ) : Prop := WP d n_Mo_goes 91 [some (.inr (.inr a0)), some (.inl a1), some (.inl a2), none] [] m h Q
abbrev q_Mo_goes_109 (d : Nat) (a0 a1 a2 a3 : Int) (m : zM) (h : zH) (Q : zQ) : Prop := WP d n_Mo_goes 109 [some (.inr (.inr a0)), some (.inl a1), some (.inl a2), some (.inl a3)] [] m h Q
set_option maxRecDepth 100000 in
set_option maxHeartbeats 8000000 in
theorem s_Mo_goes_0 (d : Nat) (a0 a1 : Int) (m : zM) (h : zH) (Q : zQ) (H :
  kd h a0 = 13 ∧ ((m a0 67) ≠ a1 →
    kd h a0 = 13 ∧ 0 < a0 ∧ ∀ m1, m1 = zwr m a0 67 a1 →
    q_Mo_goes_16 d a0 a1 0 m1 h Q) ∧
  (¬ ((m a0 67) ≠ a1) →
    Q none m h)) : q_Mo_goes_0 d a0 a1 m h Q := zvc_ok zc_Mo_goes zm_Mo_goes 94 (fun _ => rfl) H
set_option maxRecDepth 100000 in
set_option maxHeartbeats 8000000 in
theorem s_Mo_goes_16 (d : Nat) (a0 a1 a2 : Int) (m : zM) (h : zH) (Q : zQ) (H :
  kd h a0 = 13 ∧ ((m a0 47) ≤ a2 →
    q_Mo_goes_91 d a0 a1 0 m h Q) ∧
  (¬ ((m a0 47) ≤ a2) →
    kd h a0 = 13 ∧ kd h a0 = 13 ∧ kd h (m a0 49) = 101 ∧ (0 : Int) ≤ a2 ∧ a2 < ln h (m a0 49) ∧ kd h (m a0 68) = 101 ∧ 0 < (m a0 68) ∧ (0 : Int) ≤ a2 ∧ a2 < ln h (m a0 68) ∧ ∀ m1, m1 = zwr m (m a0 68) a2 (m (m a0 49) a2) →
    kd h a0 = 13 ∧ kd h (m1 a0 69) = 101 ∧ 0 < (m1 a0 69) ∧ (0 : Int) ≤ a2 ∧ a2 < ln h (m1 a0 69) ∧ ∀ m2, m2 = zwr m1 (m1 a0 69) a2 0 →
    kd h a0 = 13 ∧ kd h (m2 a0 71) = 101 ∧ 0 < (m2 a0 71) ∧ (0 : Int) ≤ a2 ∧ a2 < ln h (m2 a0 71) ∧ ∀ m3, m3 = zwr m2 (m2 a0 71) a2 0 →
    kd h a0 = 13 ∧ kd h (m3 a0 72) = 101 ∧ 0 < (m3 a0 72) ∧ (0 : Int) ≤ a2 ∧ a2 < ln h (m3 a0 72) ∧ ∀ m4, m4 = zwr m3 (m3 a0 72) a2 0 →
    kd h a0 = 13 ∧ kd h (m4 a0 73) = 101 ∧ 0 < (m4 a0 73) ∧ (0 : Int) ≤ a2 ∧ a2 < ln h (m4 a0 73) ∧ ∀ m5, m5 = zwr m4 (m4 a0 73) a2 0 →
    kd h a0 = 13 ∧ kd h (m5 a0 74) = 101 ∧ 0 < (m5 a0 74) ∧ (0 : Int) ≤ a2 ∧ a2 < ln h (m5 a0 74) ∧ ∀ m6, m6 = zwr m5 (m5 a0 74) a2 0 →
    kd h a0 = 13 ∧ kd h a0 = 13 ∧ kd h (m6 a0 49) = 101 ∧ (0 : Int) ≤ a2 ∧ a2 < ln h (m6 a0 49) ∧ kd h (m6 a0 75) = 101 ∧ 0 < (m6 a0 75) ∧ (0 : Int) ≤ a2 ∧ a2 < ln h (m6 a0 75) ∧ ∀ m7, m7 = zwr m6 (m6 a0 75) a2 (m6 (m6 a0 49) a2) →
    q_Mo_goes_16 d a0 a1 (w32 (a2 + 1)) m7 h Q)) : q_Mo_goes_16 d a0 a1 a2 m h Q := zvc_ok zc_Mo_goes zm_Mo_goes 94 (fun _ => rfl) H
set_option maxRecDepth 100000 in
set_option maxHeartbeats 8000000 in
theorem s_Mo_goes_91 (d : Nat) (a0 a1 a2 : Int) (m : zM) (h : zH) (Q : zQ) (H :
  ((120 : Int) ≤ a2 →
    Q none m h) ∧
  (¬ ((120 : Int) ≤ a2) →
    kd h a0 = 13 ∧ zcal WP d n_Mo_forces [.inr (.inr a0), .inl a2] m h (zk0 fun m1 h1 =>
    kd h1 a0 = 13 ∧ zcal WP d n_Mo_wakes [.inr (.inr a0), .inl a2] m1 h1 (zk0 fun m2 h2 =>
    q_Mo_goes_109 d a0 a1 a2 0 m2 h2 Q)))) : q_Mo_goes_91 d a0 a1 a2 m h Q := zvc_ok zc_Mo_goes zm_Mo_goes 94 (fun _ => rfl) H
set_option maxRecDepth 100000 in
set_option maxHeartbeats 8000000 in
theorem s_Mo_goes_109 (d : Nat) (a0 a1 a2 a3 : Int) (m : zM) (h : zH) (Q : zQ) (H :
  (a1 ≤ a3 →
    kd h a0 = 13 ∧ kd h a0 = 13 ∧ zcal WP d n_Mo_saves [.inr (.inr a0), .inr (.inr (m a0 83)), .inl a2] m h (zk0 fun m1 h1 =>
    q_Mo_goes_91 d a0 a1 (w32 (a2 + 1)) m1 h1 Q)) ∧
  (¬ (a1 ≤ a3) →
    kd h a0 = 13 ∧ kd h (m a0 63) = 101 ∧ (0 : Int) ≤ a3 ∧ a3 < ln h (m a0 63) ∧ ((m (m a0 63) a3) ≠ a2 →
      q_Mo_goes_109 d a0 a1 a2 (w32 (a3 + 1)) m h Q) ∧
    (¬ ((m (m a0 63) a3) ≠ a2) →
      kd h a0 = 13 ∧ zcal WP d n_Mo_happens [.inr (.inr a0), .inl a3, .inl a1] m h (zk0 fun m1 h1 =>
      q_Mo_goes_109 d a0 a1 a2 (w32 (a3 + 1)) m1 h1 Q)))) : q_Mo_goes_109 d a0 a1 a2 a3 m h Q := zvc_ok zc_Mo_goes zm_Mo_goes 94 (fun _ => rfl) H
theorem e_Mo_goes (d : Nat) (a0 a1 : Int) (m : zM) (h : zH) (Q : zQ) (H : q_Mo_goes_0 d a0 a1 m h Q) : zcal WP (d + 1) n_Mo_goes [.inr (.inr a0), .inl a1] m h Q := zcal_mk rfl H
def zm_Mo_saves : Nat → Option (List Bool) := fun pc => bif Nat.beq pc 2 then some [true, true, true, true, false] else (none)
abbrev q_Mo_saves_0 (d : Nat) (a0 a1 a2 : Int) (m : zM) (h : zH) (Q : zQ) : Prop := WP d n_Mo_saves 0 [some (.inr (.inr a0)), some (.inr (.inr a1)), some (.inl a2), none, none] [] m h Q
abbrev q_Mo_saves_2 (d : Nat) (a0 a1 a2 a3 : Int) (m : zM) (h : zH) (Q : zQ) : Prop := WP d n_Mo_saves 2 [some (.inr (.inr a0)), some (.inr (.inr a1)), some (.inl a2), some (.inl a3), none] [] m h Q
set_option maxRecDepth 100000 in
set_option maxHeartbeats 8000000 in
theorem s_Mo_saves_0 (d : Nat) (a0 a1 a2 : Int) (m : zM) (h : zH) (Q : zQ) (H :
  q_Mo_saves_2 d a0 a1 a2 0 m h Q) : q_Mo_saves_0 d a0 a1 a2 m h Q := zvc_ok zc_Mo_saves zm_Mo_saves 79 (fun _ => rfl) H
set_option maxRecDepth 100000 in
set_option maxHeartbeats 8000000 in
theorem s_Mo_saves_2 (d : Nat) (a0 a1 a2 a3 : Int) (m : zM) (h : zH) (Q : zQ) (H :
  kd h a0 = 13 ∧ ((m a0 47) ≤ a3 →
    Q none m h) ∧
  (¬ ((m a0 47) ≤ a3) →
    kd h a0 = 13 ∧ kd h (m a0 68) = 101 ∧ (0 : Int) ≤ a3 ∧ a3 < ln h (m a0 68) ∧ kd h a1 = 101 ∧ 0 < a1 ∧ (0 : Int) ≤ (w32 (7 * (w32 ((w32 (9 * a2)) + a3)))) ∧ (w32 (7 * (w32 ((w32 (9 * a2)) + a3)))) < ln h a1 ∧ ∀ m1, m1 = zwr m a1 (w32 (7 * (w32 ((w32 (9 * a2)) + a3)))) (m (m a0 68) a3) →
    kd h a0 = 13 ∧ kd h (m1 a0 69) = 101 ∧ (0 : Int) ≤ a3 ∧ a3 < ln h (m1 a0 69) ∧ kd h a1 = 101 ∧ 0 < a1 ∧ (0 : Int) ≤ (w32 ((w32 (7 * (w32 ((w32 (9 * a2)) + a3)))) + 1)) ∧ (w32 ((w32 (7 * (w32 ((w32 (9 * a2)) + a3)))) + 1)) < ln h a1 ∧ ∀ m2, m2 = zwr m1 a1 (w32 ((w32 (7 * (w32 ((w32 (9 * a2)) + a3)))) + 1)) (m1 (m1 a0 69) a3) →
    kd h a0 = 13 ∧ kd h (m2 a0 71) = 101 ∧ (0 : Int) ≤ a3 ∧ a3 < ln h (m2 a0 71) ∧ kd h a1 = 101 ∧ 0 < a1 ∧ (0 : Int) ≤ (w32 ((w32 (7 * (w32 ((w32 (9 * a2)) + a3)))) + 2)) ∧ (w32 ((w32 (7 * (w32 ((w32 (9 * a2)) + a3)))) + 2)) < ln h a1 ∧ ∀ m3, m3 = zwr m2 a1 (w32 ((w32 (7 * (w32 ((w32 (9 * a2)) + a3)))) + 2)) (m2 (m2 a0 71) a3) →
    kd h a0 = 13 ∧ kd h (m3 a0 72) = 101 ∧ (0 : Int) ≤ a3 ∧ a3 < ln h (m3 a0 72) ∧ kd h a1 = 101 ∧ 0 < a1 ∧ (0 : Int) ≤ (w32 ((w32 (7 * (w32 ((w32 (9 * a2)) + a3)))) + 3)) ∧ (w32 ((w32 (7 * (w32 ((w32 (9 * a2)) + a3)))) + 3)) < ln h a1 ∧ ∀ m4, m4 = zwr m3 a1 (w32 ((w32 (7 * (w32 ((w32 (9 * a2)) + a3)))) + 3)) (m3 (m3 a0 72) a3) →
    kd h a0 = 13 ∧ kd h (m4 a0 73) = 101 ∧ (0 : Int) ≤ a3 ∧ a3 < ln h (m4 a0 73) ∧ kd h a1 = 101 ∧ 0 < a1 ∧ (0 : Int) ≤ (w32 ((w32 (7 * (w32 ((w32 (9 * a2)) + a3)))) + 4)) ∧ (w32 ((w32 (7 * (w32 ((w32 (9 * a2)) + a3)))) + 4)) < ln h a1 ∧ ∀ m5, m5 = zwr m4 a1 (w32 ((w32 (7 * (w32 ((w32 (9 * a2)) + a3)))) + 4)) (m4 (m4 a0 73) a3) →
    kd h a0 = 13 ∧ kd h (m5 a0 74) = 101 ∧ (0 : Int) ≤ a3 ∧ a3 < ln h (m5 a0 74) ∧ kd h a1 = 101 ∧ 0 < a1 ∧ (0 : Int) ≤ (w32 ((w32 (7 * (w32 ((w32 (9 * a2)) + a3)))) + 5)) ∧ (w32 ((w32 (7 * (w32 ((w32 (9 * a2)) + a3)))) + 5)) < ln h a1 ∧ ∀ m6, m6 = zwr m5 a1 (w32 ((w32 (7 * (w32 ((w32 (9 * a2)) + a3)))) + 5)) (m5 (m5 a0 74) a3) →
    kd h a0 = 13 ∧ kd h (m6 a0 75) = 101 ∧ (0 : Int) ≤ a3 ∧ a3 < ln h (m6 a0 75) ∧ kd h a1 = 101 ∧ 0 < a1 ∧ (0 : Int) ≤ (w32 ((w32 (7 * (w32 ((w32 (9 * a2)) + a3)))) + 6)) ∧ (w32 ((w32 (7 * (w32 ((w32 (9 * a2)) + a3)))) + 6)) < ln h a1 ∧ ∀ m7, m7 = zwr m6 a1 (w32 ((w32 (7 * (w32 ((w32 (9 * a2)) + a3)))) + 6)) (m6 (m6 a0 75) a3) →
    q_Mo_saves_2 d a0 a1 a2 (w32 (a3 + 1)) m7 h Q)) : q_Mo_saves_2 d a0 a1 a2 a3 m h Q := zvc_ok zc_Mo_saves zm_Mo_saves 79 (fun _ => rfl) H
theorem e_Mo_saves (d : Nat) (a0 a1 a2 : Int) (m : zM) (h : zH) (Q : zQ) (H : q_Mo_saves_0 d a0 a1 a2 m h Q) : zcal WP (d + 1) n_Mo_saves [.inr (.inr a0), .inr (.inr a1), .inl a2] m h Q := zcal_mk rfl H
def zm_Mo_wakes : Nat → Option (List Bool) := fun pc => bif Nat.beq pc 2 then some [true, true, true] else (bif Nat.beq pc 116 then some [true, true, true] else (bif Nat.beq pc 144 then some [true, true, true] else (bif Nat.beq pc 174 then some [true, true, true] else (none))))
abbrev q_Mo_wakes_0 (d : Nat) (a0 a1 : Int) (m : zM) (h : zH) (Q : zQ) : Prop := WP d n_Mo_wakes 0 [some (.inr (.inr a0)), some (.inl a1), none] [] m h Q
abbrev q_Mo_wakes_2 (d : Nat) (a0 a1 a2 : Int) (m : zM) (h : zH) (Q : zQ) : Prop := WP d n_Mo_wakes 2 [some (.inr (.inr a0)), some (.inl a1), some (.inl a2)] [] m h Q
abbrev q_Mo_wakes_116 (d : Nat) (a0 a1 a2 : Int) (m : zM) (h : zH) (Q : zQ) : Prop := WP d n_Mo_wakes 116 [some (.inr (.inr a0)), some (.inl a1), some (.inl a2)] [] m h Q
abbrev q_Mo_wakes_144 (d : Nat) (a0 a1 a2 : Int) (m : zM) (h : zH) (Q : zQ) : Prop := WP d n_Mo_wakes 144 [some (.inr (.inr a0)), some (.inl a1), some (.inl a2)] [] m h Q
abbrev q_Mo_wakes_174 (d : Nat) (a0 a1 a2 : Int) (m : zM) (h : zH) (Q : zQ) : Prop := WP d n_Mo_wakes 174 [some (.inr (.inr a0)), some (.inl a1), some (.inl a2)] [] m h Q
set_option maxRecDepth 100000 in
set_option maxHeartbeats 8000000 in
theorem s_Mo_wakes_0 (d : Nat) (a0 a1 : Int) (m : zM) (h : zH) (Q : zQ) (H :
  q_Mo_wakes_2 d a0 a1 0 m h Q) : q_Mo_wakes_0 d a0 a1 m h Q := zvc_ok zc_Mo_wakes zm_Mo_wakes 138 (fun _ => rfl) H
set_option maxRecDepth 100000 in
set_option maxHeartbeats 8000000 in
theorem s_Mo_wakes_2 (d : Nat) (a0 a1 a2 : Int) (m : zM) (h : zH) (Q : zQ) (H :
  kd h a0 = 13 ∧ ((m a0 47) ≤ a2 →
    q_Mo_wakes_116 d a0 a1 0 m h Q) ∧
  (¬ ((m a0 47) ≤ a2) →
    kd h a0 = 13 ∧ ((0 : Int) = 0 ∨ (0 : Int) = 1) ∧ kd h (m a0 76) = 103 ∧ 0 < (m a0 76) ∧ (0 : Int) ≤ a2 ∧ a2 < ln h (m a0 76) ∧ ∀ m1, m1 = zwr m (m a0 76) a2 0 →
    kd h a0 = 13 ∧ kd h (m1 a0 77) = 101 ∧ 0 < (m1 a0 77) ∧ (0 : Int) ≤ a2 ∧ a2 < ln h (m1 a0 77) ∧ ∀ m2, m2 = zwr m1 (m1 a0 77) a2 ((-1)) →
    kd h a0 = 13 ∧ kd h (m2 a0 78) = 101 ∧ 0 < (m2 a0 78) ∧ (0 : Int) ≤ a2 ∧ a2 < ln h (m2 a0 78) ∧ ∀ m3, m3 = zwr m2 (m2 a0 78) a2 0 →
    kd h a0 = 13 ∧ ((0 : Int) = 0 ∨ (0 : Int) = 1) ∧ kd h (m3 a0 79) = 103 ∧ 0 < (m3 a0 79) ∧ (0 : Int) ≤ a2 ∧ a2 < ln h (m3 a0 79) ∧ ∀ m4, m4 = zwr m3 (m3 a0 79) a2 0 →
    kd h a0 = 13 ∧ kd h (m4 a0 69) = 101 ∧ (0 : Int) ≤ a2 ∧ a2 < ln h (m4 a0 69) ∧ ((m4 (m4 a0 69) a2) ≠ 1 →
      q_Mo_wakes_2 d a0 a1 (w32 (a2 + 1)) m4 h Q) ∧
    (¬ ((m4 (m4 a0 69) a2) ≠ 1) →
      kd h a0 = 13 ∧ kd h (m4 a0 70) = 101 ∧ (0 : Int) ≤ a2 ∧ a2 < ln h (m4 a0 70) ∧ ((m4 (m4 a0 70) a2) = a1 →
        kd h a0 = 13 ∧ kd h (m4 a0 69) = 101 ∧ 0 < (m4 a0 69) ∧ (0 : Int) ≤ a2 ∧ a2 < ln h (m4 a0 69) ∧ ∀ m5, m5 = zwr m4 (m4 a0 69) a2 0 →
        kd h a0 = 13 ∧ kd h a0 = 13 ∧ kd h (m5 a0 49) = 101 ∧ (0 : Int) ≤ a2 ∧ a2 < ln h (m5 a0 49) ∧ kd h (m5 a0 68) = 101 ∧ 0 < (m5 a0 68) ∧ (0 : Int) ≤ a2 ∧ a2 < ln h (m5 a0 68) ∧ ∀ m6, m6 = zwr m5 (m5 a0 68) a2 (m5 (m5 a0 49) a2) →
        kd h a0 = 13 ∧ kd h (m6 a0 71) = 101 ∧ 0 < (m6 a0 71) ∧ (0 : Int) ≤ a2 ∧ a2 < ln h (m6 a0 71) ∧ ∀ m7, m7 = zwr m6 (m6 a0 71) a2 0 →
        kd h a0 = 13 ∧ kd h (m7 a0 72) = 101 ∧ 0 < (m7 a0 72) ∧ (0 : Int) ≤ a2 ∧ a2 < ln h (m7 a0 72) ∧ ∀ m8, m8 = zwr m7 (m7 a0 72) a2 0 →
        kd h a0 = 13 ∧ kd h (m8 a0 73) = 101 ∧ 0 < (m8 a0 73) ∧ (0 : Int) ≤ a2 ∧ a2 < ln h (m8 a0 73) ∧ ∀ m9, m9 = zwr m8 (m8 a0 73) a2 a1 →
        kd h a0 = 13 ∧ kd h (m9 a0 74) = 101 ∧ 0 < (m9 a0 74) ∧ (0 : Int) ≤ a2 ∧ a2 < ln h (m9 a0 74) ∧ ∀ m10, m10 = zwr m9 (m9 a0 74) a2 a1 →
        q_Mo_wakes_2 d a0 a1 (w32 (a2 + 1)) m10 h Q) ∧
      (¬ ((m4 (m4 a0 70) a2) = a1) →
        q_Mo_wakes_2 d a0 a1 (w32 (a2 + 1)) m4 h Q)))) : q_Mo_wakes_2 d a0 a1 a2 m h Q := zvc_ok zc_Mo_wakes zm_Mo_wakes 138 (fun _ => rfl) H
set_option maxRecDepth 100000 in
set_option maxHeartbeats 8000000 in
theorem s_Mo_wakes_116 (d : Nat) (a0 a1 a2 : Int) (m : zM) (h : zH) (Q : zQ) (H :
  ((8 : Int) ≤ a2 →
    q_Mo_wakes_144 d a0 a1 0 m h Q) ∧
  (¬ ((8 : Int) ≤ a2) →
    kd h a0 = 13 ∧ kd h (m a0 80) = 101 ∧ 0 < (m a0 80) ∧ (0 : Int) ≤ a2 ∧ a2 < ln h (m a0 80) ∧ ∀ m1, m1 = zwr m (m a0 80) a2 0 →
    kd h a0 = 13 ∧ kd h (m1 a0 81) = 101 ∧ 0 < (m1 a0 81) ∧ (0 : Int) ≤ a2 ∧ a2 < ln h (m1 a0 81) ∧ ∀ m2, m2 = zwr m1 (m1 a0 81) a2 0 →
    q_Mo_wakes_116 d a0 a1 (w32 (a2 + 1)) m2 h Q)) : q_Mo_wakes_116 d a0 a1 a2 m h Q := zvc_ok zc_Mo_wakes zm_Mo_wakes 138 (fun _ => rfl) H
set_option maxRecDepth 100000 in
set_option maxHeartbeats 8000000 in
theorem s_Mo_wakes_144 (d : Nat) (a0 a1 a2 : Int) (m : zM) (h : zH) (Q : zQ) (H :
  ((12 : Int) ≤ a2 →
    kd h a0 = 13 ∧ kd h a0 = 13 ∧ zcal WP d n_Mo_saves [.inr (.inr a0), .inr (.inr (m a0 84)), .inl a1] m h (zk0 fun m1 h1 =>
    q_Mo_wakes_174 d a0 a1 0 m1 h1 Q)) ∧
  (¬ ((12 : Int) ≤ a2) →
    kd h a0 = 13 ∧ ((0 : Int) = 0 ∨ (0 : Int) = 1) ∧ kd h (m a0 82) = 103 ∧ 0 < (m a0 82) ∧ (0 : Int) ≤ a2 ∧ a2 < ln h (m a0 82) ∧ ∀ m1, m1 = zwr m (m a0 82) a2 0 →
    q_Mo_wakes_144 d a0 a1 (w32 (a2 + 1)) m1 h Q)) : q_Mo_wakes_144 d a0 a1 a2 m h Q := zvc_ok zc_Mo_wakes zm_Mo_wakes 138 (fun _ => rfl) H
set_option maxRecDepth 100000 in
set_option maxHeartbeats 8000000 in
theorem s_Mo_wakes_174 (d : Nat) (a0 a1 a2 : Int) (m : zM) (h : zH) (Q : zQ) (H :
  kd h a0 = 13 ∧ ((m a0 47) ≤ a2 →
    Q none m h) ∧
  (¬ ((m a0 47) ≤ a2) →
    kd h a0 = 13 ∧ zcal WP d n_Mo_stands [.inr (.inr a0), .inl a2, .inl a1] m h (zk0 fun m1 h1 =>
    kd h1 a0 = 13 ∧ kd h1 a0 = 13 ∧ zcal WP d n_Mo_first [.inr (.inr a0), .inl 1] m1 h1 (zk1 fun r2 m2 h2 =>
    (r2 = ((-1)) →
      ((0 : Int) = 0 ∨ (0 : Int) = 1) ∧ kd h2 (m1 a0 85) = 103 ∧ 0 < (m1 a0 85) ∧ (0 : Int) ≤ (w32 ((w32 (9 * a1)) + a2)) ∧ (w32 ((w32 (9 * a1)) + a2)) < ln h2 (m1 a0 85) ∧ ∀ m3, m3 = zwr m2 (m1 a0 85) (w32 ((w32 (9 * a1)) + a2)) 0 →
      q_Mo_wakes_174 d a0 a1 (w32 (a2 + 1)) m3 h2 Q) ∧
    (¬ (r2 = ((-1))) →
      ((1 : Int) = 0 ∨ (1 : Int) = 1) ∧ kd h2 (m1 a0 85) = 103 ∧ 0 < (m1 a0 85) ∧ (0 : Int) ≤ (w32 ((w32 (9 * a1)) + a2)) ∧ (w32 ((w32 (9 * a1)) + a2)) < ln h2 (m1 a0 85) ∧ ∀ m3, m3 = zwr m2 (m1 a0 85) (w32 ((w32 (9 * a1)) + a2)) 1 →
      q_Mo_wakes_174 d a0 a1 (w32 (a2 + 1)) m3 h2 Q))))) : q_Mo_wakes_174 d a0 a1 a2 m h Q := zvc_ok zc_Mo_wakes zm_Mo_wakes 138 (fun _ => rfl) H
theorem e_Mo_wakes (d : Nat) (a0 a1 : Int) (m : zM) (h : zH) (Q : zQ) (H : q_Mo_wakes_0 d a0 a1 m h Q) : zcal WP (d + 1) n_Mo_wakes [.inr (.inr a0), .inl a1] m h Q := zcal_mk rfl H
def zm_Mo_stands : Nat → Option (List Bool) := fun pc => none
abbrev q_Mo_stands_0 (d : Nat) (a0 a1 a2 : Int) (m : zM) (h : zH) (Q : zQ) : Prop := WP d n_Mo_stands 0 [some (.inr (.inr a0)), some (.inl a1), some (.inl a2)] [] m h Q
set_option maxRecDepth 100000 in
set_option maxHeartbeats 8000000 in
theorem s_Mo_stands_0 (d : Nat) (a0 a1 a2 : Int) (m : zM) (h : zH) (Q : zQ) (H :
  kd h a0 = 13 ∧ kd h (m a0 71) = 101 ∧ (0 : Int) ≤ a1 ∧ a1 < ln h (m a0 71) ∧ kd h a0 = 13 ∧ kd h (m a0 72) = 101 ∧ (0 : Int) ≤ a1 ∧ a1 < ln h (m a0 72) ∧ kd h a0 = 13 ∧ kd h (m a0 73) = 101 ∧ (0 : Int) ≤ a1 ∧ a1 < ln h (m a0 73) ∧ kd h a0 = 13 ∧ kd h (m a0 74) = 101 ∧ (0 : Int) ≤ a1 ∧ a1 < ln h (m a0 74) ∧ kd h a0 = 13 ∧ kd h (m a0 75) = 101 ∧ (0 : Int) ≤ a1 ∧ a1 < ln h (m a0 75) ∧ kd h a0 = 13 ∧ zcal WP d n_Mo_fills [.inr (.inr a0), .inl a1, .inl a2, .inl (m (m a0 71) a1), .inl (m (m a0 72) a1), .inl (m (m a0 73) a1), .inl (m (m a0 74) a1), .inl (m (m a0 75) a1)] m h (zk0 fun m1 h1 =>
  Q none m1 h1)) : q_Mo_stands_0 d a0 a1 a2 m h Q := zvc_ok zc_Mo_stands zm_Mo_stands 26 (fun _ => rfl) H
theorem e_Mo_stands (d : Nat) (a0 a1 a2 : Int) (m : zM) (h : zH) (Q : zQ) (H : q_Mo_stands_0 d a0 a1 a2 m h Q) : zcal WP (d + 1) n_Mo_stands [.inr (.inr a0), .inl a1, .inl a2] m h Q := zcal_mk rfl H
def zm_Mo_fills : Nat → Option (List Bool) := fun pc => bif Nat.beq pc 3 then some [true, true, true, true, true, true, true, true, true] else (none)
abbrev q_Mo_fills_0 (d : Nat) (a0 a1 a2 a3 a4 a5 a6 a7 : Int) (m : zM) (h : zH) (Q : zQ) : Prop := WP d n_Mo_fills 0 [some (.inr (.inr a0)), some (.inl a1), some (.inl a2), some (.inl a3), some (.inl a4), some (.inl a5), some (.inl a6), some (.inl a7), none] [] m h Q
abbrev q_Mo_fills_3 (d : Nat) (a0 a1 a2 a3 a4 a5 a6 a7 a8 : Int) (m : zM) (h : zH) (Q : zQ) : Prop := WP d n_Mo_fills 3 [some (.inr (.inr a0)), some (.inl a1), some (.inl a2), some (.inl a3), some (.inl a4), some (.inl a5), some (.inl a6), some (.inl a7), some (.inl a8)] [] m h Q
set_option maxRecDepth 100000 in
set_option maxHeartbeats 8000000 in
theorem s_Mo_fills_0 (d : Nat) (a0 a1 a2 a3 a4 a5 a6 a7 : Int) (m : zM) (h : zH) (Q : zQ) (H :
  q_Mo_fills_3 d a0 a1 a2 a3 a4 a5 a6 a7 0 m h Q) : q_Mo_fills_0 d a0 a1 a2 a3 a4 a5 a6 a7 m h Q := zvc_ok zc_Mo_fills zm_Mo_fills 64 (fun _ => rfl) H
set_option maxRecDepth 100000 in
set_option maxHeartbeats 8000000 in
theorem s_Mo_fills_3 (d : Nat) (a0 a1 a2 a3 a4 a5 a6 a7 a8 : Int) (m : zM) (h : zH) (Q : zQ) (H :
  ((12 : Int) ≤ a8 →
    kd h a0 = 13 ∧ kd h (m a0 39) = 101 ∧ 0 < (m a0 39) ∧ (0 : Int) ≤ 0 ∧ 0 < ln h (m a0 39) ∧ ∀ m1, m1 = zwr m (m a0 39) 0 a2 →
    kd h a0 = 13 ∧ kd h a0 = 13 ∧ kd h (m1 a0 48) = 101 ∧ (0 : Int) ≤ a1 ∧ a1 < ln h (m1 a0 48) ∧ kd h (m1 a0 39) = 101 ∧ 0 < (m1 a0 39) ∧ (0 : Int) ≤ 1 ∧ 1 < ln h (m1 a0 39) ∧ ∀ m2, m2 = zwr m1 (m1 a0 39) 1 (m1 (m1 a0 48) a1) →
    kd h a0 = 13 ∧ kd h (m2 a0 39) = 101 ∧ 0 < (m2 a0 39) ∧ (0 : Int) ≤ 2 ∧ 2 < ln h (m2 a0 39) ∧ ∀ m3, m3 = zwr m2 (m2 a0 39) 2 a3 →
    kd h a0 = 13 ∧ kd h (m3 a0 39) = 101 ∧ 0 < (m3 a0 39) ∧ (0 : Int) ≤ 5 ∧ 5 < ln h (m3 a0 39) ∧ ∀ m4, m4 = zwr m3 (m3 a0 39) 5 a4 →
    kd h a0 = 13 ∧ kd h (m4 a0 39) = 101 ∧ 0 < (m4 a0 39) ∧ (0 : Int) ≤ 3 ∧ 3 < ln h (m4 a0 39) ∧ ∀ m5, m5 = zwr m4 (m4 a0 39) 3 (w32 (a2 - a5)) →
    kd h a0 = 13 ∧ kd h (m5 a0 39) = 101 ∧ 0 < (m5 a0 39) ∧ (0 : Int) ≤ 4 ∧ 4 < ln h (m5 a0 39) ∧ ∀ m6, m6 = zwr m5 (m5 a0 39) 4 (w32 (a2 - a6)) →
    kd h a0 = 13 ∧ kd h a0 = 13 ∧ kd h (m6 a0 49) = 101 ∧ (0 : Int) ≤ a1 ∧ a1 < ln h (m6 a0 49) ∧ (a7 ≠ (m6 (m6 a0 49) a1) →
      kd h (m6 a0 39) = 101 ∧ 0 < (m6 a0 39) ∧ (0 : Int) ≤ 10 ∧ 10 < ln h (m6 a0 39) ∧ ∀ m7, m7 = zwr m6 (m6 a0 39) 10 1 →
      Q none m7 h) ∧
    (¬ (a7 ≠ (m6 (m6 a0 49) a1)) →
      kd h (m6 a0 39) = 101 ∧ 0 < (m6 a0 39) ∧ (0 : Int) ≤ 10 ∧ 10 < ln h (m6 a0 39) ∧ ∀ m7, m7 = zwr m6 (m6 a0 39) 10 0 →
      Q none m7 h)) ∧
  (¬ ((12 : Int) ≤ a8) →
    kd h a0 = 13 ∧ kd h (m a0 39) = 101 ∧ 0 < (m a0 39) ∧ (0 : Int) ≤ a8 ∧ a8 < ln h (m a0 39) ∧ ∀ m1, m1 = zwr m (m a0 39) a8 0 →
    q_Mo_fills_3 d a0 a1 a2 a3 a4 a5 a6 a7 (w32 (a8 + 1)) m1 h Q)) : q_Mo_fills_3 d a0 a1 a2 a3 a4 a5 a6 a7 a8 m h Q := zvc_ok zc_Mo_fills zm_Mo_fills 64 (fun _ => rfl) H
theorem e_Mo_fills (d : Nat) (a0 a1 a2 a3 a4 a5 a6 a7 : Int) (m : zM) (h : zH) (Q : zQ) (H : q_Mo_fills_0 d a0 a1 a2 a3 a4 a5 a6 a7 m h Q) : zcal WP (d + 1) n_Mo_fills [.inr (.inr a0), .inl a1, .inl a2, .inl a3, .inl a4, .inl a5, .inl a6, .inl a7] m h Q := zcal_mk rfl H
def zm_Mo_asks : Nat → Option (List Bool) := fun pc => none
abbrev q_Mo_asks_0 (d : Nat) (a0 a1 : Int) (m : zM) (h : zH) (Q : zQ) : Prop := WP d n_Mo_asks 0 [some (.inr (.inr a0)), some (.inl a1)] [] m h Q
set_option maxRecDepth 100000 in
set_option maxHeartbeats 8000000 in
theorem s_Mo_asks_0 (d : Nat) (a0 a1 : Int) (m : zM) (h : zH) (Q : zQ) (H :
  kd h a0 = 13 ∧ kd h a0 = 13 ∧ kd h (m a0 58) = 101 ∧ (0 : Int) ≤ a1 ∧ a1 < ln h (m a0 58) ∧ kd h (m a0 39) = 101 ∧ 0 < (m a0 39) ∧ (0 : Int) ≤ 6 ∧ 6 < ln h (m a0 39) ∧ ∀ m1, m1 = zwr m (m a0 39) 6 (m (m a0 58) a1) →
  kd h a0 = 13 ∧ kd h a0 = 13 ∧ kd h (m1 a0 59) = 101 ∧ (0 : Int) ≤ a1 ∧ a1 < ln h (m1 a0 59) ∧ kd h (m1 a0 39) = 101 ∧ 0 < (m1 a0 39) ∧ (0 : Int) ≤ 7 ∧ 7 < ln h (m1 a0 39) ∧ ∀ m2, m2 = zwr m1 (m1 a0 39) 7 (m1 (m1 a0 59) a1) →
  kd h a0 = 13 ∧ kd h a0 = 13 ∧ kd h (m2 a0 56) = 101 ∧ (0 : Int) ≤ a1 ∧ a1 < ln h (m2 a0 56) ∧ kd h a0 = 13 ∧ kd h (m2 a0 55) = 101 ∧ (0 : Int) ≤ a1 ∧ a1 < ln h (m2 a0 55) ∧ kd h (m2 a0 39) = 101 ∧ 0 < (m2 a0 39) ∧ (0 : Int) ≤ 8 ∧ 8 < ln h (m2 a0 39) ∧ ∀ m3, m3 = zwr m2 (m2 a0 39) 8 (w32 ((m2 (m2 a0 56) a1) - (m2 (m2 a0 55) a1))) →
  kd h a0 = 13 ∧ kd h a0 = 13 ∧ kd h (m3 a0 57) = 101 ∧ (0 : Int) ≤ a1 ∧ a1 < ln h (m3 a0 57) ∧ kd h (m3 a0 39) = 101 ∧ 0 < (m3 a0 39) ∧ (0 : Int) ≤ 9 ∧ 9 < ln h (m3 a0 39) ∧ ∀ m4, m4 = zwr m3 (m3 a0 39) 9 (m3 (m3 a0 57) a1) →
  kd h a0 = 13 ∧ kd h a0 = 13 ∧ kd h (m4 a0 60) = 103 ∧ (0 : Int) ≤ a1 ∧ a1 < ln h (m4 a0 60) ∧ ((m4 (m4 a0 60) a1) = 0 →
    kd h (m4 a0 39) = 101 ∧ 0 < (m4 a0 39) ∧ (0 : Int) ≤ 11 ∧ 11 < ln h (m4 a0 39) ∧ ∀ m5, m5 = zwr m4 (m4 a0 39) 11 0 →
    Q none m5 h) ∧
  (¬ ((m4 (m4 a0 60) a1) = 0) →
    kd h (m4 a0 39) = 101 ∧ 0 < (m4 a0 39) ∧ (0 : Int) ≤ 11 ∧ 11 < ln h (m4 a0 39) ∧ ∀ m5, m5 = zwr m4 (m4 a0 39) 11 1 →
    Q none m5 h)) : q_Mo_asks_0 d a0 a1 m h Q := zvc_ok zc_Mo_asks zm_Mo_asks 51 (fun _ => rfl) H
theorem e_Mo_asks (d : Nat) (a0 a1 : Int) (m : zM) (h : zH) (Q : zQ) (H : q_Mo_asks_0 d a0 a1 m h Q) : zcal WP (d + 1) n_Mo_asks [.inr (.inr a0), .inl a1] m h Q := zcal_mk rfl H
def zm_Mo_happens : Nat → Option (List Bool) := fun pc => bif Nat.beq pc 177 then some [true, false, false, true, false, false] else (none)
abbrev q_Mo_happens_0 (d : Nat) (a0 a1 a2 : Int) (m : zM) (h : zH) (Q : zQ) : Prop := WP d n_Mo_happens 0 [some (.inr (.inr a0)), some (.inl a1), some (.inl a2), none, none, none] [] m h Q
abbrev q_Mo_happens_177 (d : Nat) (a0 a3 s0 : Int) (m : zM) (h : zH) (Q : zQ) : Prop := WP d n_Mo_happens 177 [some (.inr (.inr a0)), none, none, some (.inl a3), none, none] [.inl s0] m h Q
set_option maxRecDepth 100000 in
set_option maxHeartbeats 8000000 in
theorem s_Mo_happens_0 (d : Nat) (a0 a1 a2 : Int) (m : zM) (h : zH) (Q : zQ) (H :
  kd h a0 = 13 ∧ kd h (m a0 64) = 101 ∧ (0 : Int) ≤ a1 ∧ a1 < ln h (m a0 64) ∧ kd h a0 = 13 ∧ kd h (m a0 63) = 101 ∧ (0 : Int) ≤ a1 ∧ a1 < ln h (m a0 63) ∧ kd h a0 = 13 ∧ kd h (m a0 62) = 101 ∧ (0 : Int) ≤ a1 ∧ a1 < ln h (m a0 62) ∧ ((m (m a0 62) a1) = 0 →
    kd h a0 = 13 ∧ kd h (m a0 69) = 101 ∧ (0 : Int) ≤ (m (m a0 64) a1) ∧ (m (m a0 64) a1) < ln h (m a0 69) ∧ ((m (m a0 69) (m (m a0 64) a1)) ≠ 0 →
      Q none m h) ∧
    (¬ ((m (m a0 69) (m (m a0 64) a1)) ≠ 0) →
      kd h a0 = 13 ∧ kd h (m a0 77) = 101 ∧ (0 : Int) ≤ (m (m a0 64) a1) ∧ (m (m a0 64) a1) < ln h (m a0 77) ∧ ((m (m a0 77) (m (m a0 64) a1)) = ((-1)) →
        kd h a0 = 13 ∧ kd h (m a0 71) = 101 ∧ 0 < (m a0 71) ∧ (0 : Int) ≤ (m (m a0 64) a1) ∧ (m (m a0 64) a1) < ln h (m a0 71) ∧ ∀ m1, m1 = zwr m (m a0 71) (m (m a0 64) a1) 0 →
        kd h a0 = 13 ∧ kd h (m1 a0 73) = 101 ∧ 0 < (m1 a0 73) ∧ (0 : Int) ≤ (m (m a0 64) a1) ∧ (m (m a0 64) a1) < ln h (m1 a0 73) ∧ ∀ m2, m2 = zwr m1 (m1 a0 73) (m (m a0 64) a1) (m (m a0 63) a1) →
        kd h a0 = 13 ∧ ((1 : Int) = 0 ∨ (1 : Int) = 1) ∧ kd h (m2 a0 76) = 103 ∧ 0 < (m2 a0 76) ∧ (0 : Int) ≤ (m (m a0 64) a1) ∧ (m (m a0 64) a1) < ln h (m2 a0 76) ∧ ∀ m3, m3 = zwr m2 (m2 a0 76) (m (m a0 64) a1) 1 →
        Q none m3 h) ∧
      (¬ ((m (m a0 77) (m (m a0 64) a1)) = ((-1))) →
        Q none m h))) ∧
  (¬ (m (m a0 62) a1) = 0 →
  ((m (m a0 62) a1) = 1 →
    kd h a0 = 13 ∧ kd h (m a0 69) = 101 ∧ (0 : Int) ≤ (m (m a0 64) a1) ∧ (m (m a0 64) a1) < ln h (m a0 69) ∧ ((m (m a0 69) (m (m a0 64) a1)) ≠ 0 →
      Q none m h) ∧
    (¬ ((m (m a0 69) (m (m a0 64) a1)) ≠ 0) →
      kd h a0 = 13 ∧ kd h (m a0 74) = 101 ∧ 0 < (m a0 74) ∧ (0 : Int) ≤ (m (m a0 64) a1) ∧ (m (m a0 64) a1) < ln h (m a0 74) ∧ ∀ m1, m1 = zwr m (m a0 74) (m (m a0 64) a1) (m (m a0 63) a1) →
      Q none m1 h)) ∧
  (¬ (m (m a0 62) a1) = 1 →
  ((m (m a0 62) a1) = 2 →
    kd h a0 = 13 ∧ kd h (m a0 69) = 101 ∧ (0 : Int) ≤ (m (m a0 64) a1) ∧ (m (m a0 64) a1) < ln h (m a0 69) ∧ ((m (m a0 69) (m (m a0 64) a1)) ≠ 2 →
      Q none m h) ∧
    (¬ ((m (m a0 69) (m (m a0 64) a1)) ≠ 2) →
      kd h a0 = 13 ∧ kd h (m a0 69) = 101 ∧ 0 < (m a0 69) ∧ (0 : Int) ≤ (m (m a0 64) a1) ∧ (m (m a0 64) a1) < ln h (m a0 69) ∧ ∀ m1, m1 = zwr m (m a0 69) (m (m a0 64) a1) 0 →
      Q none m1 h)) ∧
  (¬ (m (m a0 62) a1) = 2 →
  ((m (m a0 62) a1) = 3 →
    kd h a0 = 13 ∧ kd h (m a0 62) = 101 ∧ (0 : Int) ≤ a1 ∧ a1 < ln h (m a0 62) ∧ ((m (m a0 62) a1) ≠ 6 →
      kd h a0 = 13 ∧ kd h (m a0 49) = 101 ∧ (0 : Int) ≤ (m (m a0 64) a1) ∧ (m (m a0 64) a1) < ln h (m a0 49) ∧ q_Mo_happens_177 d a0 (m (m a0 64) a1) (m (m a0 49) (m (m a0 64) a1)) m h Q) ∧
    (¬ ((m (m a0 62) a1) ≠ 6) →
      kd h a0 = 13 ∧ kd h (m a0 65) = 101 ∧ (0 : Int) ≤ a1 ∧ a1 < ln h (m a0 65) ∧ q_Mo_happens_177 d a0 (m (m a0 64) a1) (m (m a0 65) a1) m h Q)) ∧
  (¬ (m (m a0 62) a1) = 3 →
  ((m (m a0 62) a1) = 4 →
    kd h a0 = 13 ∧ kd h (m a0 69) = 101 ∧ (0 : Int) ≤ (m (m a0 64) a1) ∧ (m (m a0 64) a1) < ln h (m a0 69) ∧ ((m (m a0 69) (m (m a0 64) a1)) ≠ 0 →
      Q none m h) ∧
    (¬ ((m (m a0 69) (m (m a0 64) a1)) ≠ 0) →
      kd h a0 = 13 ∧ kd h (m a0 77) = 101 ∧ (0 : Int) ≤ (m (m a0 64) a1) ∧ (m (m a0 64) a1) < ln h (m a0 77) ∧ ((m (m a0 77) (m (m a0 64) a1)) ≠ ((-1)) →
        Q none m h) ∧
      (¬ ((m (m a0 77) (m (m a0 64) a1)) ≠ ((-1))) →
        kd h a0 = 13 ∧ kd h (m a0 65) = 101 ∧ (0 : Int) ≤ a1 ∧ a1 < ln h (m a0 65) ∧ ((m (m a0 63) a1) < (m (m a0 65) a1) →
          kd h a0 = 13 ∧ kd h (m a0 69) = 101 ∧ 0 < (m a0 69) ∧ (0 : Int) ≤ (m (m a0 64) a1) ∧ (m (m a0 64) a1) < ln h (m a0 69) ∧ ∀ m1, m1 = zwr m (m a0 69) (m (m a0 64) a1) 1 →
          kd h a0 = 13 ∧ kd h a0 = 13 ∧ kd h (m1 a0 65) = 101 ∧ (0 : Int) ≤ a1 ∧ a1 < ln h (m1 a0 65) ∧ kd h (m1 a0 70) = 101 ∧ 0 < (m1 a0 70) ∧ (0 : Int) ≤ (m (m a0 64) a1) ∧ (m (m a0 64) a1) < ln h (m1 a0 70) ∧ ∀ m2, m2 = zwr m1 (m1 a0 70) (m (m a0 64) a1) (m1 (m1 a0 65) a1) →
          Q none m2 h) ∧
        (¬ ((m (m a0 63) a1) < (m (m a0 65) a1)) →
          Q none m h)))) ∧
  (¬ (m (m a0 62) a1) = 4 →
  ((m (m a0 62) a1) = 5 →
    kd h a0 = 13 ∧ zcal WP d n_Mo_breaksDown [.inr (.inr a0), .inl a1] m h (zk0 fun m1 h1 =>
    Q none m1 h1)) ∧
  (¬ (m (m a0 62) a1) = 5 →
  ((m (m a0 62) a1) = 6 →
    kd h a0 = 13 ∧ kd h (m a0 62) = 101 ∧ (0 : Int) ≤ a1 ∧ a1 < ln h (m a0 62) ∧ ((m (m a0 62) a1) ≠ 6 →
      kd h a0 = 13 ∧ kd h (m a0 49) = 101 ∧ (0 : Int) ≤ (m (m a0 64) a1) ∧ (m (m a0 64) a1) < ln h (m a0 49) ∧ q_Mo_happens_177 d a0 (m (m a0 64) a1) (m (m a0 49) (m (m a0 64) a1)) m h Q) ∧
    (¬ ((m (m a0 62) a1) ≠ 6) →
      kd h a0 = 13 ∧ kd h (m a0 65) = 101 ∧ (0 : Int) ≤ a1 ∧ a1 < ln h (m a0 65) ∧ q_Mo_happens_177 d a0 (m (m a0 64) a1) (m (m a0 65) a1) m h Q)) ∧
  (¬ (m (m a0 62) a1) = 6 →
  ((m (m a0 62) a1) = 7 →
    Q none m h) ∧
  (¬ (m (m a0 62) a1) = 7 →
  ((m (m a0 62) a1) = 8 →
    kd h a0 = 13 ∧ zcal WP d n_Mo_goesOut [.inr (.inr a0), .inl a1, .inl a2] m h (zk0 fun m1 h1 =>
    Q none m1 h1)) ∧
  (¬ (m (m a0 62) a1) = 8 →
    Q none m h)))))))))) : q_Mo_happens_0 d a0 a1 a2 m h Q := zvc_ok zc_Mo_happens zm_Mo_happens 148 (fun _ => rfl) H
set_option maxRecDepth 100000 in
set_option maxHeartbeats 8000000 in
theorem s_Mo_happens_177 (d : Nat) (a0 a3 s0 : Int) (m : zM) (h : zH) (Q : zQ) (H :
  kd h a0 = 13 ∧ kd h (m a0 69) = 101 ∧ (0 : Int) ≤ a3 ∧ a3 < ln h (m a0 69) ∧ ((m (m a0 69) a3) ≠ 0 →
    Q none m h) ∧
  (¬ ((m (m a0 69) a3) ≠ 0) →
    kd h a0 = 13 ∧ kd h (m a0 75) = 101 ∧ (0 : Int) ≤ a3 ∧ a3 < ln h (m a0 75) ∧ ((m (m a0 75) a3) ≠ s0 →
      kd h a0 = 13 ∧ kd h (m a0 75) = 101 ∧ 0 < (m a0 75) ∧ (0 : Int) ≤ a3 ∧ a3 < ln h (m a0 75) ∧ ∀ m1, m1 = zwr m (m a0 75) a3 s0 →
      kd h a0 = 13 ∧ kd h (m1 a0 68) = 101 ∧ 0 < (m1 a0 68) ∧ (0 : Int) ≤ a3 ∧ a3 < ln h (m1 a0 68) ∧ ∀ m2, m2 = zwr m1 (m1 a0 68) a3 s0 →
      Q none m2 h) ∧
    (¬ ((m (m a0 75) a3) ≠ s0) →
      Q none m h))) : q_Mo_happens_177 d a0 a3 s0 m h Q := zvc_ok zc_Mo_happens zm_Mo_happens 148 (fun _ => rfl) H
theorem e_Mo_happens (d : Nat) (a0 a1 a2 : Int) (m : zM) (h : zH) (Q : zQ) (H : q_Mo_happens_0 d a0 a1 a2 m h Q) : zcal WP (d + 1) n_Mo_happens [.inr (.inr a0), .inl a1, .inl a2] m h Q := zcal_mk rfl H
def zm_Mo_breaksDown : Nat → Option (List Bool) := fun pc => bif Nat.beq pc 26 then some [true, true, true, false, false] else (none)
abbrev q_Mo_breaksDown_0 (d : Nat) (a0 a1 : Int) (m : zM) (h : zH) (Q : zQ) : Prop := WP d n_Mo_breaksDown 0 [some (.inr (.inr a0)), some (.inl a1), none, none, none] [] m h Q
abbrev q_Mo_breaksDown_26 (d : Nat) (a0 a1 a2 s0 s1 s2 : Int) (m : zM) (h : zH) (Q : zQ) : Prop := WP d n_Mo_breaksDown 26 [some (.inr (.inr a0)), some (.inl a1), some (.inl a2), none, none] [.inl s0, .inl s1, .inr (.inr s2)] m h Q
set_option maxRecDepth 100000 in
set_option maxHeartbeats 8000000 in
theorem s_Mo_breaksDown_0 (d : Nat) (a0 a1 : Int) (m : zM) (h : zH) (Q : zQ) (H :
  kd h a0 = 13 ∧ kd h (m a0 64) = 101 ∧ (0 : Int) ≤ a1 ∧ a1 < ln h (m a0 64) ∧ kd h a0 = 13 ∧ kd h a0 = 13 ∧ kd h (m a0 69) = 101 ∧ (0 : Int) ≤ (m (m a0 64) a1) ∧ (m (m a0 64) a1) < ln h (m a0 69) ∧ ((m (m a0 69) (m (m a0 64) a1)) ≠ 0 →
    q_Mo_breaksDown_26 d a0 a1 (m (m a0 64) a1) 0 a1 (m a0 93) m h Q) ∧
  (¬ ((m (m a0 69) (m (m a0 64) a1)) ≠ 0) →
    q_Mo_breaksDown_26 d a0 a1 (m (m a0 64) a1) 1 a1 (m a0 93) m h Q)) : q_Mo_breaksDown_0 d a0 a1 m h Q := zvc_ok zc_Mo_breaksDown zm_Mo_breaksDown 105 (fun _ => rfl) H
set_option maxRecDepth 100000 in
set_option maxHeartbeats 8000000 in
theorem s_Mo_breaksDown_26 (d : Nat) (a0 a1 a2 s0 s1 s2 : Int) (m : zM) (h : zH) (Q : zQ) (H :
  (s0 = 0 ∨ s0 = 1) ∧ kd h s2 = 103 ∧ 0 < s2 ∧ (0 : Int) ≤ s1 ∧ s1 < ln h s2 ∧ ∀ m1, m1 = zwr m s2 s1 s0 →
  kd h a0 = 13 ∧ kd h (m1 a0 93) = 103 ∧ (0 : Int) ≤ a1 ∧ a1 < ln h (m1 a0 93) ∧ ((m1 (m1 a0 93) a1) ≠ 0 →
    kd h a0 = 13 ∧ kd h (m1 a0 69) = 101 ∧ 0 < (m1 a0 69) ∧ (0 : Int) ≤ a2 ∧ a2 < ln h (m1 a0 69) ∧ ∀ m2, m2 = zwr m1 (m1 a0 69) a2 2 →
    kd h a0 = 13 ∧ kd h (m2 a0 95) = 101 ∧ 0 < (m2 a0 95) ∧ (0 : Int) ≤ a1 ∧ a1 < ln h (m2 a0 95) ∧ ∀ m3, m3 = zwr m2 (m2 a0 95) a1 ((-1)) →
    kd h a0 = 13 ∧ kd h (m3 a0 77) = 101 ∧ (0 : Int) ≤ a2 ∧ a2 < ln h (m3 a0 77) ∧ ((m3 (m3 a0 77) a2) = ((-1)) →
      kd h a0 = 13 ∧ kd h a0 = 13 ∧ kd h (m3 a0 68) = 101 ∧ (0 : Int) ≤ a2 ∧ a2 < ln h (m3 a0 68) ∧ kd h (m3 a0 94) = 101 ∧ 0 < (m3 a0 94) ∧ (0 : Int) ≤ a1 ∧ a1 < ln h (m3 a0 94) ∧ ∀ m4, m4 = zwr m3 (m3 a0 94) a1 (m3 (m3 a0 68) a2) →
      Q none m4 h) ∧
    (¬ ((m3 (m3 a0 77) a2) = ((-1))) →
      kd h a0 = 13 ∧ kd h a0 = 13 ∧ kd h (m3 a0 66) = 101 ∧ (0 : Int) ≤ (m3 (m3 a0 77) a2) ∧ (m3 (m3 a0 77) a2) < ln h (m3 a0 66) ∧ kd h (m3 a0 95) = 101 ∧ 0 < (m3 a0 95) ∧ (0 : Int) ≤ a1 ∧ a1 < ln h (m3 a0 95) ∧ ∀ m4, m4 = zwr m3 (m3 a0 95) a1 (m3 (m3 a0 66) (m3 (m3 a0 77) a2)) →
      kd h a0 = 13 ∧ kd h a0 = 13 ∧ kd h a0 = 13 ∧ kd h (m4 a0 65) = 101 ∧ (0 : Int) ≤ (m3 (m3 a0 77) a2) ∧ (m3 (m3 a0 77) a2) < ln h (m4 a0 65) ∧ kd h (m4 a0 53) = 101 ∧ (0 : Int) ≤ (m4 (m4 a0 65) (m3 (m3 a0 77) a2)) ∧ (m4 (m4 a0 65) (m3 (m3 a0 77) a2)) < ln h (m4 a0 53) ∧ kd h (m4 a0 68) = 101 ∧ 0 < (m4 a0 68) ∧ (0 : Int) ≤ a2 ∧ a2 < ln h (m4 a0 68) ∧ ∀ m5, m5 = zwr m4 (m4 a0 68) a2 (m4 (m4 a0 53) (m4 (m4 a0 65) (m3 (m3 a0 77) a2))) →
      kd h a0 = 13 ∧ kd h (m5 a0 79) = 103 ∧ (0 : Int) ≤ a2 ∧ a2 < ln h (m5 a0 79) ∧ ((m5 (m5 a0 79) a2) ≠ 0 →
        kd h a0 = 13 ∧ kd h a0 = 13 ∧ kd h (m5 a0 68) = 101 ∧ (0 : Int) ≤ a2 ∧ a2 < ln h (m5 a0 68) ∧ kd h (m5 a0 94) = 101 ∧ 0 < (m5 a0 94) ∧ (0 : Int) ≤ a1 ∧ a1 < ln h (m5 a0 94) ∧ ∀ m6, m6 = zwr m5 (m5 a0 94) a1 (m5 (m5 a0 68) a2) →
        Q none m6 h) ∧
      (¬ ((m5 (m5 a0 79) a2) ≠ 0) →
        kd h a0 = 13 ∧ kd h (m5 a0 88) = 101 ∧ (0 : Int) ≤ (m3 (m3 a0 77) a2) ∧ (m3 (m3 a0 77) a2) < ln h (m5 a0 88) ∧ (2 : Int) ≠ 0 ∧ kd h a0 = 13 ∧ kd h (m5 a0 71) = 101 ∧ (0 : Int) ≤ a2 ∧ a2 < ln h (m5 a0 71) ∧ kd h a0 = 13 ∧ kd h (m5 a0 88) = 101 ∧ (0 : Int) ≤ (m3 (m3 a0 77) a2) ∧ (m3 (m3 a0 77) a2) < ln h (m5 a0 88) ∧ kd h (m5 a0 71) = 101 ∧ 0 < (m5 a0 71) ∧ (0 : Int) ≤ a2 ∧ a2 < ln h (m5 a0 71) ∧ ∀ m6, m6 = zwr m5 (m5 a0 71) a2 (w32 ((m5 (m5 a0 71) a2) - (w32 ((m5 (m5 a0 88) (m3 (m3 a0 77) a2)) - (zdiv (m5 (m5 a0 88) (m3 (m3 a0 77) a2)) 2))))) →
        kd h a0 = 13 ∧ kd h (m6 a0 88) = 101 ∧ 0 < (m6 a0 88) ∧ (0 : Int) ≤ (m3 (m3 a0 77) a2) ∧ (m3 (m3 a0 77) a2) < ln h (m6 a0 88) ∧ ∀ m7, m7 = zwr m6 (m6 a0 88) (m3 (m3 a0 77) a2) (zdiv (m5 (m5 a0 88) (m3 (m3 a0 77) a2)) 2) →
        kd h a0 = 13 ∧ ((1 : Int) = 0 ∨ (1 : Int) = 1) ∧ kd h (m7 a0 79) = 103 ∧ 0 < (m7 a0 79) ∧ (0 : Int) ≤ a2 ∧ a2 < ln h (m7 a0 79) ∧ ∀ m8, m8 = zwr m7 (m7 a0 79) a2 1 →
        kd h a0 = 13 ∧ kd h a0 = 13 ∧ kd h (m8 a0 68) = 101 ∧ (0 : Int) ≤ a2 ∧ a2 < ln h (m8 a0 68) ∧ kd h (m8 a0 94) = 101 ∧ 0 < (m8 a0 94) ∧ (0 : Int) ≤ a1 ∧ a1 < ln h (m8 a0 94) ∧ ∀ m9, m9 = zwr m8 (m8 a0 94) a1 (m8 (m8 a0 68) a2) →
        Q none m9 h))) ∧
  (¬ ((m1 (m1 a0 93) a1) ≠ 0) →
    Q none m1 h)) : q_Mo_breaksDown_26 d a0 a1 a2 s0 s1 s2 m h Q := zvc_ok zc_Mo_breaksDown zm_Mo_breaksDown 105 (fun _ => rfl) H
theorem e_Mo_breaksDown (d : Nat) (a0 a1 : Int) (m : zM) (h : zH) (Q : zQ) (H : q_Mo_breaksDown_0 d a0 a1 m h Q) : zcal WP (d + 1) n_Mo_breaksDown [.inr (.inr a0), .inl a1] m h Q := zcal_mk rfl H
def zm_Mo_milesOf : Nat → Option (List Bool) := fun pc => bif Nat.beq pc 17 then some [true, true, true, true, true] else (none)
abbrev q_Mo_milesOf_0 (d : Nat) (a0 a1 a2 : Int) (m : zM) (h : zH) (Q : zQ) : Prop := WP d n_Mo_milesOf 0 [some (.inr (.inr a0)), some (.inl a1), some (.inl a2), none, none] [] m h Q
abbrev q_Mo_milesOf_17 (d : Nat) (a0 a1 a2 a3 a4 : Int) (m : zM) (h : zH) (Q : zQ) : Prop := WP d n_Mo_milesOf 17 [some (.inr (.inr a0)), some (.inl a1), some (.inl a2), some (.inl a3), some (.inl a4)] [] m h Q
set_option maxRecDepth 100000 in
set_option maxHeartbeats 8000000 in
theorem s_Mo_milesOf_0 (d : Nat) (a0 a1 a2 : Int) (m : zM) (h : zH) (Q : zQ) (H :
  kd h a0 = 13 ∧ kd h a0 = 13 ∧ kd h (m a0 65) = 101 ∧ (0 : Int) ≤ a1 ∧ a1 < ln h (m a0 65) ∧ kd h (m a0 57) = 101 ∧ (0 : Int) ≤ (m (m a0 65) a1) ∧ (m (m a0 65) a1) < ln h (m a0 57) ∧ q_Mo_milesOf_17 d a0 a1 a2 (m (m a0 57) (m (m a0 65) a1)) (w32 (a1 + 1)) m h Q) : q_Mo_milesOf_0 d a0 a1 a2 m h Q := zvc_ok zc_Mo_milesOf zm_Mo_milesOf 37 (fun _ => rfl) H
set_option maxRecDepth 100000 in
set_option maxHeartbeats 8000000 in
theorem s_Mo_milesOf_17 (d : Nat) (a0 a1 a2 a3 a4 : Int) (m : zM) (h : zH) (Q : zQ) (H :
  (a2 ≤ a4 →
    Q (some (.inl a3)) m h) ∧
  (¬ (a2 ≤ a4) →
    kd h a0 = 13 ∧ kd h (m a0 62) = 101 ∧ (0 : Int) ≤ a4 ∧ a4 < ln h (m a0 62) ∧ ((m (m a0 62) a4) ≠ 9 →
      q_Mo_milesOf_17 d a0 a1 a2 a3 (w32 (a4 + 1)) m h Q) ∧
    (¬ ((m (m a0 62) a4) ≠ 9) →
      kd h a0 = 13 ∧ kd h (m a0 65) = 101 ∧ (0 : Int) ≤ a4 ∧ a4 < ln h (m a0 65) ∧ ((m (m a0 65) a4) ≠ a1 →
        q_Mo_milesOf_17 d a0 a1 a2 a3 (w32 (a4 + 1)) m h Q) ∧
      (¬ ((m (m a0 65) a4) ≠ a1) →
        kd h a0 = 13 ∧ kd h (m a0 66) = 101 ∧ (0 : Int) ≤ a4 ∧ a4 < ln h (m a0 66) ∧ q_Mo_milesOf_17 d a0 a1 a2 (m (m a0 66) a4) (w32 (a4 + 1)) m h Q)))) : q_Mo_milesOf_17 d a0 a1 a2 a3 a4 m h Q := zvc_ok zc_Mo_milesOf zm_Mo_milesOf 37 (fun _ => rfl) H
theorem e_Mo_milesOf (d : Nat) (a0 a1 a2 : Int) (m : zM) (h : zH) (Q : zQ) (H : q_Mo_milesOf_0 d a0 a1 a2 m h Q) : zcal WP (d + 1) n_Mo_milesOf [.inr (.inr a0), .inl a1, .inl a2] m h Q := zcal_mk rfl H
def zm_Mo_hoursOf : Nat → Option (List Bool) := fun pc => bif Nat.beq pc 4 then some [false, true, true, true] else (none)
abbrev q_Mo_hoursOf_0 (d : Nat) (a0 a1 : Int) (m : zM) (h : zH) (Q : zQ) : Prop := WP d n_Mo_hoursOf 0 [some (.inl a0), some (.inl a1), none, none] [] m h Q
abbrev q_Mo_hoursOf_4 (d : Nat) (a1 a2 a3 : Int) (m : zM) (h : zH) (Q : zQ) : Prop := WP d n_Mo_hoursOf 4 [none, some (.inl a1), some (.inl a2), some (.inl a3)] [] m h Q
set_option maxRecDepth 100000 in
set_option maxHeartbeats 8000000 in
theorem s_Mo_hoursOf_0 (d : Nat) (a0 a1 : Int) (m : zM) (h : zH) (Q : zQ) (H :
  q_Mo_hoursOf_4 d a1 0 a0 m h Q) : q_Mo_hoursOf_0 d a0 a1 m h Q := zvc_ok zc_Mo_hoursOf zm_Mo_hoursOf 18 (fun _ => rfl) H
set_option maxRecDepth 100000 in
set_option maxHeartbeats 8000000 in
theorem s_Mo_hoursOf_4 (d : Nat) (a1 a2 a3 : Int) (m : zM) (h : zH) (Q : zQ) (H :
  (a1 ≤ a3 →
    Q (some (.inl a2)) m h) ∧
  (¬ (a1 ≤ a3) →
    q_Mo_hoursOf_4 d a1 (zor a2 (zshl 1 a3)) (w32 (a3 + 1)) m h Q)) : q_Mo_hoursOf_4 d a1 a2 a3 m h Q := zvc_ok zc_Mo_hoursOf zm_Mo_hoursOf 18 (fun _ => rfl) H
theorem e_Mo_hoursOf (d : Nat) (a0 a1 : Int) (m : zM) (h : zH) (Q : zQ) (H : q_Mo_hoursOf_0 d a0 a1 m h Q) : zcal WP (d + 1) n_Mo_hoursOf [.inl a0, .inl a1] m h Q := zcal_mk rfl H
def zm_Mo_goesOut : Nat → Option (List Bool) := fun pc => bif Nat.beq pc 282 then some [true, true, true, true, true, true, true, true, true] else (bif Nat.beq pc 448 then some [true, false, false, false, false, true, true, true, true] else (none))
abbrev q_Mo_goesOut_0 (d : Nat) (a0 a1 a2 : Int) (m : zM) (h : zH) (Q : zQ) : Prop := WP d n_Mo_goesOut 0 [some (.inr (.inr a0)), some (.inl a1), some (.inl a2), none, none, none, none, none, none] [] m h Q
abbrev q_Mo_goesOut_282 (d : Nat) (a0 a1 a2 a3 a4 a5 a6 a7 a8 : Int) (m : zM) (h : zH) (Q : zQ) : Prop := WP d n_Mo_goesOut 282 [some (.inr (.inr a0)), some (.inl a1), some (.inl a2), some (.inl a3), some (.inl a4), some (.inl a5), some (.inl a6), some (.inl a7), some (.inl a8)] [] m h Q
abbrev q_Mo_goesOut_448 (d : Nat) (a0 a5 a6 a7 a8 : Int) (m : zM) (h : zH) (Q : zQ) : Prop := WP d n_Mo_goesOut 448 [some (.inr (.inr a0)), none, none, none, none, some (.inl a5), some (.inl a6), some (.inl a7), some (.inl a8)] [] m h Q
set_option maxRecDepth 100000 in
set_option maxHeartbeats 8000000 in
theorem s_Mo_goesOut_0 (d : Nat) (a0 a1 a2 : Int) (m : zM) (h : zH) (Q : zQ) (H :
  kd h a0 = 13 ∧ kd h (m a0 64) = 101 ∧ (0 : Int) ≤ a1 ∧ a1 < ln h (m a0 64) ∧ kd h a0 = 13 ∧ kd h (m a0 63) = 101 ∧ (0 : Int) ≤ a1 ∧ a1 < ln h (m a0 63) ∧ kd h a0 = 13 ∧ kd h (m a0 65) = 101 ∧ (0 : Int) ≤ a1 ∧ a1 < ln h (m a0 65) ∧ kd h a0 = 13 ∧ kd h (m a0 66) = 101 ∧ (0 : Int) ≤ a1 ∧ a1 < ln h (m a0 66) ∧ kd h a0 = 13 ∧ kd h (m a0 55) = 101 ∧ (0 : Int) ≤ (m (m a0 65) a1) ∧ (m (m a0 65) a1) < ln h (m a0 55) ∧ kd h a0 = 13 ∧ kd h (m a0 56) = 101 ∧ (0 : Int) ≤ (m (m a0 65) a1) ∧ (m (m a0 65) a1) < ln h (m a0 56) ∧ zcal WP d n_Mo_hoursOf [.inl (m (m a0 55) (m (m a0 65) a1)), .inl (m (m a0 56) (m (m a0 65) a1))] m h (zk1 fun r1 m1 h1 =>
  kd h1 a0 = 13 ∧ kd h1 (m1 a0 56) = 101 ∧ (0 : Int) ≤ (m (m a0 65) a1) ∧ (m (m a0 65) a1) < ln h1 (m1 a0 56) ∧ kd h1 a0 = 13 ∧ kd h1 (m1 a0 55) = 101 ∧ (0 : Int) ≤ (m (m a0 65) a1) ∧ (m (m a0 65) a1) < ln h1 (m1 a0 55) ∧ kd h1 a0 = 13 ∧ zcal WP d n_Mo_stands [.inr (.inr a0), .inl (m (m a0 64) a1), .inl (m (m a0 63) a1)] m1 h1 (zk0 fun m2 h2 =>
  kd h2 a0 = 13 ∧ zcal WP d n_Mo_asks [.inr (.inr a0), .inl (m (m a0 65) a1)] m2 h2 (zk0 fun m3 h3 =>
  kd h3 a0 = 13 ∧ kd h3 a0 = 13 ∧ zcal WP d n_Mo_first [.inr (.inr a0), .inl 0] m3 h3 (zk1 fun r4 m4 h4 =>
  kd h4 (m3 a0 87) = 101 ∧ 0 < (m3 a0 87) ∧ (0 : Int) ≤ a1 ∧ a1 < ln h4 (m3 a0 87) ∧ ∀ m5, m5 = zwr m4 (m3 a0 87) a1 r4 →
  kd h4 a0 = 13 ∧ kd h4 (m5 a0 69) = 101 ∧ (0 : Int) ≤ (m (m a0 64) a1) ∧ (m (m a0 64) a1) < ln h4 (m5 a0 69) ∧ ((m5 (m5 a0 69) (m (m a0 64) a1)) ≠ 0 →
    kd h4 a0 = 13 ∧ kd h4 (m5 a0 86) = 101 ∧ 0 < (m5 a0 86) ∧ (0 : Int) ≤ a1 ∧ a1 < ln h4 (m5 a0 86) ∧ ∀ m6, m6 = zwr m5 (m5 a0 86) a1 1 →
    q_Mo_goesOut_282 d a0 a1 a2 (m (m a0 64) a1) (m (m a0 63) a1) (m (m a0 65) a1) (m (m a0 66) a1) r1 (w32 ((m1 (m1 a0 56) (m (m a0 65) a1)) - (m1 (m1 a0 55) (m (m a0 65) a1)))) m6 h4 Q) ∧
  (¬ ((m5 (m5 a0 69) (m (m a0 64) a1)) ≠ 0) →
    kd h4 a0 = 13 ∧ kd h4 (m5 a0 76) = 103 ∧ (0 : Int) ≤ (m (m a0 64) a1) ∧ (m (m a0 64) a1) < ln h4 (m5 a0 76) ∧ ((m5 (m5 a0 76) (m (m a0 64) a1)) = 0 →
      kd h4 a0 = 13 ∧ kd h4 (m5 a0 68) = 101 ∧ (0 : Int) ≤ (m (m a0 64) a1) ∧ (m (m a0 64) a1) < ln h4 (m5 a0 68) ∧ kd h4 a0 = 13 ∧ kd h4 (m5 a0 53) = 101 ∧ (0 : Int) ≤ (m (m a0 65) a1) ∧ (m (m a0 65) a1) < ln h4 (m5 a0 53) ∧ ((m5 (m5 a0 68) (m (m a0 64) a1)) = (m5 (m5 a0 53) (m (m a0 65) a1)) →
        kd h4 a0 = 13 ∧ kd h4 (m5 a0 78) = 101 ∧ (0 : Int) ≤ (m (m a0 64) a1) ∧ (m (m a0 64) a1) < ln h4 (m5 a0 78) ∧ kd h4 a0 = 13 ∧ kd h4 (m5 a0 55) = 101 ∧ (0 : Int) ≤ (m (m a0 65) a1) ∧ (m (m a0 65) a1) < ln h4 (m5 a0 55) ∧ ((m5 (m5 a0 78) (m (m a0 64) a1)) ≤ (m5 (m5 a0 55) (m (m a0 65) a1)) →
          kd h4 a0 = 13 ∧ kd h4 (m5 a0 87) = 101 ∧ (0 : Int) ≤ a1 ∧ a1 < ln h4 (m5 a0 87) ∧ ((m5 (m5 a0 87) a1) = ((-1)) →
            kd h4 a0 = 13 ∧ kd h4 (m5 a0 80) = 101 ∧ (0 : Int) ≤ (m (m a0 66) a1) ∧ (m (m a0 66) a1) < ln h4 (m5 a0 80) ∧ ((zand (m5 (m5 a0 80) (m (m a0 66) a1)) r1) ≠ 0 →
              kd h4 a0 = 13 ∧ kd h4 (m5 a0 86) = 101 ∧ 0 < (m5 a0 86) ∧ (0 : Int) ≤ a1 ∧ a1 < ln h4 (m5 a0 86) ∧ ∀ m6, m6 = zwr m5 (m5 a0 86) a1 5 →
              q_Mo_goesOut_282 d a0 a1 a2 (m (m a0 64) a1) (m (m a0 63) a1) (m (m a0 65) a1) (m (m a0 66) a1) r1 (w32 ((m1 (m1 a0 56) (m (m a0 65) a1)) - (m1 (m1 a0 55) (m (m a0 65) a1)))) m6 h4 Q) ∧
            (¬ ((zand (m5 (m5 a0 80) (m (m a0 66) a1)) r1) ≠ 0) →
              kd h4 a0 = 13 ∧ kd h4 (m5 a0 81) = 101 ∧ (0 : Int) ≤ (m (m a0 66) a1) ∧ (m (m a0 66) a1) < ln h4 (m5 a0 81) ∧ ((w32 ((m5 (m5 a0 81) (m (m a0 66) a1)) + (w32 ((m1 (m1 a0 56) (m (m a0 65) a1)) - (m1 (m1 a0 55) (m (m a0 65) a1)))))) ≤ 10 →
                kd h4 a0 = 13 ∧ kd h4 (m5 a0 51) = 101 ∧ (0 : Int) ≤ (m (m a0 66) a1) ∧ (m (m a0 66) a1) < ln h4 (m5 a0 51) ∧ kd h4 a0 = 13 ∧ kd h4 (m5 a0 59) = 101 ∧ (0 : Int) ≤ (m (m a0 65) a1) ∧ (m (m a0 65) a1) < ln h4 (m5 a0 59) ∧ ((zand (zshr (m5 (m5 a0 51) (m (m a0 66) a1)) (m5 (m5 a0 59) (m (m a0 65) a1))) 1) ≠ 0 →
                  kd h4 a0 = 13 ∧ kd h4 a0 = 13 ∧ kd h4 (m5 a0 82) = 103 ∧ (0 : Int) ≤ (m (m a0 65) a1) ∧ (m (m a0 65) a1) < ln h4 (m5 a0 82) ∧ ((m5 (m5 a0 82) (m (m a0 65) a1)) = 0 →
                    kd h4 (m5 a0 86) = 101 ∧ 0 < (m5 a0 86) ∧ (0 : Int) ≤ a1 ∧ a1 < ln h4 (m5 a0 86) ∧ ∀ m6, m6 = zwr m5 (m5 a0 86) a1 0 →
                    q_Mo_goesOut_282 d a0 a1 a2 (m (m a0 64) a1) (m (m a0 63) a1) (m (m a0 65) a1) (m (m a0 66) a1) r1 (w32 ((m1 (m1 a0 56) (m (m a0 65) a1)) - (m1 (m1 a0 55) (m (m a0 65) a1)))) m6 h4 Q) ∧
                  (¬ ((m5 (m5 a0 82) (m (m a0 65) a1)) = 0) →
                    kd h4 (m5 a0 86) = 101 ∧ 0 < (m5 a0 86) ∧ (0 : Int) ≤ a1 ∧ a1 < ln h4 (m5 a0 86) ∧ ∀ m6, m6 = zwr m5 (m5 a0 86) a1 7 →
                    q_Mo_goesOut_282 d a0 a1 a2 (m (m a0 64) a1) (m (m a0 63) a1) (m (m a0 65) a1) (m (m a0 66) a1) r1 (w32 ((m1 (m1 a0 56) (m (m a0 65) a1)) - (m1 (m1 a0 55) (m (m a0 65) a1)))) m6 h4 Q)) ∧
                (¬ ((zand (zshr (m5 (m5 a0 51) (m (m a0 66) a1)) (m5 (m5 a0 59) (m (m a0 65) a1))) 1) ≠ 0) →
                  kd h4 a0 = 13 ∧ kd h4 (m5 a0 86) = 101 ∧ 0 < (m5 a0 86) ∧ (0 : Int) ≤ a1 ∧ a1 < ln h4 (m5 a0 86) ∧ ∀ m6, m6 = zwr m5 (m5 a0 86) a1 6 →
                  q_Mo_goesOut_282 d a0 a1 a2 (m (m a0 64) a1) (m (m a0 63) a1) (m (m a0 65) a1) (m (m a0 66) a1) r1 (w32 ((m1 (m1 a0 56) (m (m a0 65) a1)) - (m1 (m1 a0 55) (m (m a0 65) a1)))) m6 h4 Q)) ∧
              (¬ ((w32 ((m5 (m5 a0 81) (m (m a0 66) a1)) + (w32 ((m1 (m1 a0 56) (m (m a0 65) a1)) - (m1 (m1 a0 55) (m (m a0 65) a1)))))) ≤ 10) →
                kd h4 a0 = 13 ∧ kd h4 (m5 a0 86) = 101 ∧ 0 < (m5 a0 86) ∧ (0 : Int) ≤ a1 ∧ a1 < ln h4 (m5 a0 86) ∧ ∀ m6, m6 = zwr m5 (m5 a0 86) a1 5 →
                q_Mo_goesOut_282 d a0 a1 a2 (m (m a0 64) a1) (m (m a0 63) a1) (m (m a0 65) a1) (m (m a0 66) a1) r1 (w32 ((m1 (m1 a0 56) (m (m a0 65) a1)) - (m1 (m1 a0 55) (m (m a0 65) a1)))) m6 h4 Q))) ∧
          (¬ ((m5 (m5 a0 87) a1) = ((-1))) →
            kd h4 a0 = 13 ∧ kd h4 (m5 a0 86) = 101 ∧ 0 < (m5 a0 86) ∧ (0 : Int) ≤ a1 ∧ a1 < ln h4 (m5 a0 86) ∧ ∀ m6, m6 = zwr m5 (m5 a0 86) a1 4 →
            q_Mo_goesOut_282 d a0 a1 a2 (m (m a0 64) a1) (m (m a0 63) a1) (m (m a0 65) a1) (m (m a0 66) a1) r1 (w32 ((m1 (m1 a0 56) (m (m a0 65) a1)) - (m1 (m1 a0 55) (m (m a0 65) a1)))) m6 h4 Q)) ∧
        (¬ ((m5 (m5 a0 78) (m (m a0 64) a1)) ≤ (m5 (m5 a0 55) (m (m a0 65) a1))) →
          kd h4 a0 = 13 ∧ kd h4 (m5 a0 86) = 101 ∧ 0 < (m5 a0 86) ∧ (0 : Int) ≤ a1 ∧ a1 < ln h4 (m5 a0 86) ∧ ∀ m6, m6 = zwr m5 (m5 a0 86) a1 3 →
          q_Mo_goesOut_282 d a0 a1 a2 (m (m a0 64) a1) (m (m a0 63) a1) (m (m a0 65) a1) (m (m a0 66) a1) r1 (w32 ((m1 (m1 a0 56) (m (m a0 65) a1)) - (m1 (m1 a0 55) (m (m a0 65) a1)))) m6 h4 Q)) ∧
      (¬ ((m5 (m5 a0 68) (m (m a0 64) a1)) = (m5 (m5 a0 53) (m (m a0 65) a1))) →
        kd h4 a0 = 13 ∧ kd h4 (m5 a0 86) = 101 ∧ 0 < (m5 a0 86) ∧ (0 : Int) ≤ a1 ∧ a1 < ln h4 (m5 a0 86) ∧ ∀ m6, m6 = zwr m5 (m5 a0 86) a1 2 →
        q_Mo_goesOut_282 d a0 a1 a2 (m (m a0 64) a1) (m (m a0 63) a1) (m (m a0 65) a1) (m (m a0 66) a1) r1 (w32 ((m1 (m1 a0 56) (m (m a0 65) a1)) - (m1 (m1 a0 55) (m (m a0 65) a1)))) m6 h4 Q)) ∧
    (¬ ((m5 (m5 a0 76) (m (m a0 64) a1)) = 0) →
      kd h4 a0 = 13 ∧ kd h4 (m5 a0 86) = 101 ∧ 0 < (m5 a0 86) ∧ (0 : Int) ≤ a1 ∧ a1 < ln h4 (m5 a0 86) ∧ ∀ m6, m6 = zwr m5 (m5 a0 86) a1 1 →
      q_Mo_goesOut_282 d a0 a1 a2 (m (m a0 64) a1) (m (m a0 63) a1) (m (m a0 65) a1) (m (m a0 66) a1) r1 (w32 ((m1 (m1 a0 56) (m (m a0 65) a1)) - (m1 (m1 a0 55) (m (m a0 65) a1)))) m6 h4 Q))))))) : q_Mo_goesOut_0 d a0 a1 a2 m h Q := zvc_ok zc_Mo_goesOut zm_Mo_goesOut 293 (fun _ => rfl) H
set_option maxRecDepth 100000 in
set_option maxHeartbeats 8000000 in
theorem s_Mo_goesOut_282 (d : Nat) (a0 a1 a2 a3 a4 a5 a6 a7 a8 : Int) (m : zM) (h : zH) (Q : zQ) (H :
  kd h a0 = 13 ∧ kd h (m a0 86) = 101 ∧ (0 : Int) ≤ a1 ∧ a1 < ln h (m a0 86) ∧ ((m (m a0 86) a1) = 0 →
    kd h a0 = 13 ∧ kd h a0 = 13 ∧ kd h (m a0 71) = 101 ∧ (0 : Int) ≤ a3 ∧ a3 < ln h (m a0 71) ∧ kd h (m a0 92) = 101 ∧ 0 < (m a0 92) ∧ (0 : Int) ≤ a1 ∧ a1 < ln h (m a0 92) ∧ ∀ m1, m1 = zwr m (m a0 92) a1 (m (m a0 71) a3) →
    kd h a0 = 13 ∧ kd h a0 = 13 ∧ kd h (m1 a0 85) = 103 ∧ (0 : Int) ≤ (w32 ((w32 (9 * a4)) + a3)) ∧ (w32 ((w32 (9 * a4)) + a3)) < ln h (m1 a0 85) ∧ ((m1 (m1 a0 85) (w32 ((w32 (9 * a4)) + a3))) = 0 ∨ (m1 (m1 a0 85) (w32 ((w32 (9 * a4)) + a3))) = 1) ∧ kd h (m1 a0 91) = 103 ∧ 0 < (m1 a0 91) ∧ (0 : Int) ≤ a1 ∧ a1 < ln h (m1 a0 91) ∧ ∀ m2, m2 = zwr m1 (m1 a0 91) a1 (m1 (m1 a0 85) (w32 ((w32 (9 * a4)) + a3))) →
    kd h a0 = 13 ∧ kd h a0 = 13 ∧ zcal WP d n_Mo_milesOf [.inr (.inr a0), .inl a1, .inl a2] m2 h (zk1 fun r3 m3 h3 =>
    kd h3 (m2 a0 88) = 101 ∧ 0 < (m2 a0 88) ∧ (0 : Int) ≤ a1 ∧ a1 < ln h3 (m2 a0 88) ∧ ∀ m4, m4 = zwr m3 (m2 a0 88) a1 r3 →
    kd h3 a0 = 13 ∧ kd h3 a0 = 13 ∧ zcal WP d n_Mo_tells [.inr (.inr a0), .inl 2, .inl 999] m4 h3 (zk1 fun r5 m5 h5 =>
    kd h5 (m4 a0 89) = 101 ∧ 0 < (m4 a0 89) ∧ (0 : Int) ≤ a1 ∧ a1 < ln h5 (m4 a0 89) ∧ ∀ m6, m6 = zwr m5 (m4 a0 89) a1 r5 →
    kd h5 a0 = 13 ∧ kd h5 a0 = 13 ∧ zcal WP d n_Mo_tells [.inr (.inr a0), .inl 3, .inl 999] m6 h5 (zk1 fun r7 m7 h7 =>
    kd h7 (m6 a0 90) = 101 ∧ 0 < (m6 a0 90) ∧ (0 : Int) ≤ a1 ∧ a1 < ln h7 (m6 a0 90) ∧ ∀ m8, m8 = zwr m7 (m6 a0 90) a1 r7 →
    kd h7 a0 = 13 ∧ kd h7 a0 = 13 ∧ kd h7 (m8 a0 54) = 101 ∧ (0 : Int) ≤ a5 ∧ a5 < ln h7 (m8 a0 54) ∧ kd h7 (m8 a0 68) = 101 ∧ 0 < (m8 a0 68) ∧ (0 : Int) ≤ a3 ∧ a3 < ln h7 (m8 a0 68) ∧ ∀ m9, m9 = zwr m8 (m8 a0 68) a3 (m8 (m8 a0 54) a5) →
    kd h7 a0 = 13 ∧ kd h7 (m9 a0 71) = 101 ∧ (0 : Int) ≤ a3 ∧ a3 < ln h7 (m9 a0 71) ∧ kd h7 a0 = 13 ∧ kd h7 (m9 a0 88) = 101 ∧ (0 : Int) ≤ a1 ∧ a1 < ln h7 (m9 a0 88) ∧ kd h7 (m9 a0 71) = 101 ∧ 0 < (m9 a0 71) ∧ (0 : Int) ≤ a3 ∧ a3 < ln h7 (m9 a0 71) ∧ ∀ m10, m10 = zwr m9 (m9 a0 71) a3 (w32 ((m9 (m9 a0 71) a3) + (m9 (m9 a0 88) a1))) →
    kd h7 a0 = 13 ∧ kd h7 (m10 a0 72) = 101 ∧ (0 : Int) ≤ a3 ∧ a3 < ln h7 (m10 a0 72) ∧ kd h7 a0 = 13 ∧ kd h7 (m10 a0 89) = 101 ∧ (0 : Int) ≤ a1 ∧ a1 < ln h7 (m10 a0 89) ∧ kd h7 (m10 a0 72) = 101 ∧ 0 < (m10 a0 72) ∧ (0 : Int) ≤ a3 ∧ a3 < ln h7 (m10 a0 72) ∧ ∀ m11, m11 = zwr m10 (m10 a0 72) a3 (w32 ((m10 (m10 a0 72) a3) + (m10 (m10 a0 89) a1))) →
    kd h7 a0 = 13 ∧ kd h7 (m11 a0 77) = 101 ∧ 0 < (m11 a0 77) ∧ (0 : Int) ≤ a3 ∧ a3 < ln h7 (m11 a0 77) ∧ ∀ m12, m12 = zwr m11 (m11 a0 77) a3 a1 →
    kd h7 a0 = 13 ∧ ((0 : Int) = 0 ∨ (0 : Int) = 1) ∧ kd h7 (m12 a0 79) = 103 ∧ 0 < (m12 a0 79) ∧ (0 : Int) ≤ a3 ∧ a3 < ln h7 (m12 a0 79) ∧ ∀ m13, m13 = zwr m12 (m12 a0 79) a3 0 →
    kd h7 a0 = 13 ∧ kd h7 (m13 a0 56) = 101 ∧ (0 : Int) ≤ a5 ∧ a5 < ln h7 (m13 a0 56) ∧ kd h7 a0 = 13 ∧ kd h7 (m13 a0 78) = 101 ∧ (0 : Int) ≤ a3 ∧ a3 < ln h7 (m13 a0 78) ∧ ((m13 (m13 a0 56) a5) ≤ (m13 (m13 a0 78) a3) →
      q_Mo_goesOut_448 d a0 a5 a6 a7 a8 m13 h7 Q) ∧
    (¬ ((m13 (m13 a0 56) a5) ≤ (m13 (m13 a0 78) a3)) →
      kd h7 a0 = 13 ∧ kd h7 a0 = 13 ∧ kd h7 (m13 a0 56) = 101 ∧ (0 : Int) ≤ a5 ∧ a5 < ln h7 (m13 a0 56) ∧ kd h7 (m13 a0 78) = 101 ∧ 0 < (m13 a0 78) ∧ (0 : Int) ≤ a3 ∧ a3 < ln h7 (m13 a0 78) ∧ ∀ m14, m14 = zwr m13 (m13 a0 78) a3 (m13 (m13 a0 56) a5) →
      q_Mo_goesOut_448 d a0 a5 a6 a7 a8 m14 h7 Q))))) ∧
  (¬ ((m (m a0 86) a1) = 0) →
    Q none m h)) : q_Mo_goesOut_282 d a0 a1 a2 a3 a4 a5 a6 a7 a8 m h Q := zvc_ok zc_Mo_goesOut zm_Mo_goesOut 293 (fun _ => rfl) H
set_option maxRecDepth 100000 in
set_option maxHeartbeats 8000000 in
theorem s_Mo_goesOut_448 (d : Nat) (a0 a5 a6 a7 a8 : Int) (m : zM) (h : zH) (Q : zQ) (H :
  kd h a0 = 13 ∧ kd h (m a0 80) = 101 ∧ (0 : Int) ≤ a6 ∧ a6 < ln h (m a0 80) ∧ kd h (m a0 80) = 101 ∧ 0 < (m a0 80) ∧ (0 : Int) ≤ a6 ∧ a6 < ln h (m a0 80) ∧ ∀ m1, m1 = zwr m (m a0 80) a6 (zor (m (m a0 80) a6) a7) →
  kd h a0 = 13 ∧ kd h (m1 a0 81) = 101 ∧ (0 : Int) ≤ a6 ∧ a6 < ln h (m1 a0 81) ∧ kd h (m1 a0 81) = 101 ∧ 0 < (m1 a0 81) ∧ (0 : Int) ≤ a6 ∧ a6 < ln h (m1 a0 81) ∧ ∀ m2, m2 = zwr m1 (m1 a0 81) a6 (w32 ((m1 (m1 a0 81) a6) + a8)) →
  kd h a0 = 13 ∧ ((1 : Int) = 0 ∨ (1 : Int) = 1) ∧ kd h (m2 a0 82) = 103 ∧ 0 < (m2 a0 82) ∧ (0 : Int) ≤ a5 ∧ a5 < ln h (m2 a0 82) ∧ ∀ m3, m3 = zwr m2 (m2 a0 82) a5 1 →
  Q none m3 h) : q_Mo_goesOut_448 d a0 a5 a6 a7 a8 m h Q := zvc_ok zc_Mo_goesOut zm_Mo_goesOut 293 (fun _ => rfl) H
theorem e_Mo_goesOut (d : Nat) (a0 a1 a2 : Int) (m : zM) (h : zH) (Q : zQ) (H : q_Mo_goesOut_0 d a0 a1 a2 m h Q) : zcal WP (d + 1) n_Mo_goesOut [.inr (.inr a0), .inl a1, .inl a2] m h Q := zcal_mk rfl H
def zm_Mo_state : Nat → Option (List Bool) := fun pc => none
abbrev q_Mo_state_0 (d : Nat) (a0 a1 a2 a3 a4 : Int) (m : zM) (h : zH) (Q : zQ) : Prop := WP d n_Mo_state 0 [some (.inr (.inr a0)), some (.inl a1), some (.inl a2), some (.inl a3), some (.inl a4), none] [] m h Q
set_option maxRecDepth 100000 in
set_option maxHeartbeats 8000000 in
theorem s_Mo_state_0 (d : Nat) (a0 a1 a2 a3 a4 : Int) (m : zM) (h : zH) (Q : zQ) (H :
  kd h a0 = 13 ∧ zcal WP d n_Mo_isEngine [.inr (.inr a0), .inl a1] m h (zk1 fun r1 m1 h1 =>
  (r1 = 0 →
    Q (some (.inl ((-1)))) m1 h1) ∧
  (¬ (r1 = 0) →
    zcal WP d n_Mo_isDay [.inl a2] m1 h1 (zk1 fun r2 m2 h2 =>
    (r2 = 0 →
      Q (some (.inl ((-1)))) m2 h2) ∧
    (¬ (r2 = 0) →
      kd h2 a0 = 13 ∧ zcal WP d n_Mo_isKnown [.inr (.inr a0), .inl a3] m2 h2 (zk1 fun r3 m3 h3 =>
      (r3 ≠ 0 →
        kd h3 a0 = 13 ∧ zcal WP d n_Mo_goes [.inr (.inr a0), .inl a3] m3 h3 (zk0 fun m4 h4 =>
        (a4 = 0 →
          kd h4 a0 = 13 ∧ kd h4 (m4 a0 83) = 101 ∧ (0 : Int) ≤ (w32 ((w32 (7 * (w32 ((w32 (9 * a2)) + a1)))) + 1)) ∧ (w32 ((w32 (7 * (w32 ((w32 (9 * a2)) + a1)))) + 1)) < ln h4 (m4 a0 83) ∧ ((m4 (m4 a0 83) (w32 ((w32 (7 * (w32 ((w32 (9 * a2)) + a1)))) + 1))) ≠ 1 →
            kd h4 a0 = 13 ∧ kd h4 (m4 a0 83) = 101 ∧ (0 : Int) ≤ (w32 (7 * (w32 ((w32 (9 * a2)) + a1)))) ∧ (w32 (7 * (w32 ((w32 (9 * a2)) + a1)))) < ln h4 (m4 a0 83) ∧ Q (some (.inl (m4 (m4 a0 83) (w32 (7 * (w32 ((w32 (9 * a2)) + a1))))))) m4 h4) ∧
          (¬ ((m4 (m4 a0 83) (w32 ((w32 (7 * (w32 ((w32 (9 * a2)) + a1)))) + 1))) ≠ 1) →
            Q (some (.inl ((-1)))) m4 h4)) ∧
        (¬ a4 = 0 →
        (a4 = 1 →
          kd h4 a0 = 13 ∧ kd h4 (m4 a0 83) = 101 ∧ (0 : Int) ≤ (w32 ((w32 (7 * (w32 ((w32 (9 * a2)) + a1)))) + 1)) ∧ (w32 ((w32 (7 * (w32 ((w32 (9 * a2)) + a1)))) + 1)) < ln h4 (m4 a0 83) ∧ Q (some (.inl (m4 (m4 a0 83) (w32 ((w32 (7 * (w32 ((w32 (9 * a2)) + a1)))) + 1))))) m4 h4) ∧
        (¬ a4 = 1 →
        (a4 = 2 →
          kd h4 a0 = 13 ∧ kd h4 (m4 a0 83) = 101 ∧ (0 : Int) ≤ (w32 ((w32 (7 * (w32 ((w32 (9 * a2)) + a1)))) + 2)) ∧ (w32 ((w32 (7 * (w32 ((w32 (9 * a2)) + a1)))) + 2)) < ln h4 (m4 a0 83) ∧ Q (some (.inl (m4 (m4 a0 83) (w32 ((w32 (7 * (w32 ((w32 (9 * a2)) + a1)))) + 2))))) m4 h4) ∧
        (¬ a4 = 2 →
        (a4 = 3 →
          kd h4 a0 = 13 ∧ kd h4 (m4 a0 83) = 101 ∧ (0 : Int) ≤ (w32 ((w32 (7 * (w32 ((w32 (9 * a2)) + a1)))) + 3)) ∧ (w32 ((w32 (7 * (w32 ((w32 (9 * a2)) + a1)))) + 3)) < ln h4 (m4 a0 83) ∧ Q (some (.inl (m4 (m4 a0 83) (w32 ((w32 (7 * (w32 ((w32 (9 * a2)) + a1)))) + 3))))) m4 h4) ∧
        (¬ a4 = 3 →
        (a4 = 4 →
          kd h4 a0 = 13 ∧ kd h4 (m4 a0 83) = 101 ∧ (0 : Int) ≤ (w32 ((w32 (7 * (w32 ((w32 (9 * a2)) + a1)))) + 4)) ∧ (w32 ((w32 (7 * (w32 ((w32 (9 * a2)) + a1)))) + 4)) < ln h4 (m4 a0 83) ∧ Q (some (.inl (w32 (a2 - (m4 (m4 a0 83) (w32 ((w32 (7 * (w32 ((w32 (9 * a2)) + a1)))) + 4))))))) m4 h4) ∧
        (¬ a4 = 4 →
        (a4 = 5 →
          kd h4 a0 = 13 ∧ kd h4 (m4 a0 83) = 101 ∧ (0 : Int) ≤ (w32 ((w32 (7 * (w32 ((w32 (9 * a2)) + a1)))) + 5)) ∧ (w32 ((w32 (7 * (w32 ((w32 (9 * a2)) + a1)))) + 5)) < ln h4 (m4 a0 83) ∧ Q (some (.inl (w32 (a2 - (m4 (m4 a0 83) (w32 ((w32 (7 * (w32 ((w32 (9 * a2)) + a1)))) + 5))))))) m4 h4) ∧
        (¬ a4 = 5 →
        (a4 = 6 →
          kd h4 a0 = 13 ∧ kd h4 (m4 a0 83) = 101 ∧ (0 : Int) ≤ (w32 ((w32 (7 * (w32 ((w32 (9 * a2)) + a1)))) + 6)) ∧ (w32 ((w32 (7 * (w32 ((w32 (9 * a2)) + a1)))) + 6)) < ln h4 (m4 a0 83) ∧ Q (some (.inl (m4 (m4 a0 83) (w32 ((w32 (7 * (w32 ((w32 (9 * a2)) + a1)))) + 6))))) m4 h4) ∧
        (¬ a4 = 6 →
          Q (some (.inl ((-1)))) m4 h4))))))))) ∧
      (¬ (r3 ≠ 0) →
        Q (some (.inl ((-1)))) m3 h3))))))) : q_Mo_state_0 d a0 a1 a2 a3 a4 m h Q := zvc_ok zc_Mo_state zm_Mo_state 90 (fun _ => rfl) H
theorem e_Mo_state (d : Nat) (a0 a1 a2 a3 a4 : Int) (m : zM) (h : zH) (Q : zQ) (H : q_Mo_state_0 d a0 a1 a2 a3 a4 m h Q) : zcal WP (d + 1) n_Mo_state [.inr (.inr a0), .inl a1, .inl a2, .inl a3, .inl a4] m h Q := zcal_mk rfl H
def zm_Mo_isRun : Nat → Option (List Bool) := fun pc => none
abbrev q_Mo_isRun_0 (d : Nat) (a0 a1 a2 : Int) (m : zM) (h : zH) (Q : zQ) : Prop := WP d n_Mo_isRun 0 [some (.inr (.inr a0)), some (.inl a1), some (.inl a2)] [] m h Q
set_option maxRecDepth 100000 in
set_option maxHeartbeats 8000000 in
theorem s_Mo_isRun_0 (d : Nat) (a0 a1 a2 : Int) (m : zM) (h : zH) (Q : zQ) (H :
  kd h a0 = 13 ∧ zcal WP d n_Mo_isKnown [.inr (.inr a0), .inl a2] m h (zk1 fun r1 m1 h1 =>
  (r1 = 0 →
    ((0 : Int) = 0 ∨ (0 : Int) = 1) ∧ Q (some (.inl (0 : Int))) m1 h1) ∧
  (¬ (r1 = 0) →
    (a1 < 0 →
      ((0 : Int) = 0 ∨ (0 : Int) = 1) ∧ Q (some (.inl (0 : Int))) m1 h1) ∧
    (¬ (a1 < 0) →
      (a2 ≤ a1 →
        ((0 : Int) = 0 ∨ (0 : Int) = 1) ∧ Q (some (.inl (0 : Int))) m1 h1) ∧
      (¬ (a2 ≤ a1) →
        kd h1 a0 = 13 ∧ kd h1 (m1 a0 62) = 101 ∧ (0 : Int) ≤ a1 ∧ a1 < ln h1 (m1 a0 62) ∧ ((m1 (m1 a0 62) a1) ≠ 8 →
          ((0 : Int) = 0 ∨ (0 : Int) = 1) ∧ Q (some (.inl (0 : Int))) m1 h1) ∧
        (¬ ((m1 (m1 a0 62) a1) ≠ 8) →
          ((1 : Int) = 0 ∨ (1 : Int) = 1) ∧ Q (some (.inl (1 : Int))) m1 h1)))))) : q_Mo_isRun_0 d a0 a1 a2 m h Q := zvc_ok zc_Mo_isRun zm_Mo_isRun 20 (fun _ => rfl) H
theorem e_Mo_isRun (d : Nat) (a0 a1 a2 : Int) (m : zM) (h : zH) (Q : zQ) (H : q_Mo_isRun_0 d a0 a1 a2 m h Q) : zcal WP (d + 1) n_Mo_isRun [.inr (.inr a0), .inl a1, .inl a2] m h Q := zcal_mk rfl H
def zm_Mo_isVoid : Nat → Option (List Bool) := fun pc => none
abbrev q_Mo_isVoid_0 (d : Nat) (a0 a1 a2 : Int) (m : zM) (h : zH) (Q : zQ) : Prop := WP d n_Mo_isVoid 0 [some (.inr (.inr a0)), some (.inl a1), some (.inl a2)] [] m h Q
set_option maxRecDepth 100000 in
set_option maxHeartbeats 8000000 in
theorem s_Mo_isVoid_0 (d : Nat) (a0 a1 a2 : Int) (m : zM) (h : zH) (Q : zQ) (H :
  kd h a0 = 13 ∧ zcal WP d n_Mo_isRun [.inr (.inr a0), .inl a1, .inl a2] m h (zk1 fun r1 m1 h1 =>
  (r1 ≠ 0 →
    kd h1 a0 = 13 ∧ zcal WP d n_Mo_goes [.inr (.inr a0), .inl a2] m1 h1 (zk0 fun m2 h2 =>
    kd h2 a0 = 13 ∧ kd h2 (m2 a0 86) = 101 ∧ (0 : Int) ≤ a1 ∧ a1 < ln h2 (m2 a0 86) ∧ Q (some (.inl (m2 (m2 a0 86) a1))) m2 h2)) ∧
  (¬ (r1 ≠ 0) →
    Q (some (.inl ((-1)))) m1 h1))) : q_Mo_isVoid_0 d a0 a1 a2 m h Q := zvc_ok zc_Mo_isVoid zm_Mo_isVoid 16 (fun _ => rfl) H
theorem e_Mo_isVoid (d : Nat) (a0 a1 a2 : Int) (m : zM) (h : zH) (Q : zQ) (H : q_Mo_isVoid_0 d a0 a1 a2 m h Q) : zcal WP (d + 1) n_Mo_isVoid [.inr (.inr a0), .inl a1, .inl a2] m h Q := zcal_mk rfl H
def zm_Mo_held : Nat → Option (List Bool) := fun pc => none
abbrev q_Mo_held_0 (d : Nat) (a0 a1 a2 a3 : Int) (m : zM) (h : zH) (Q : zQ) : Prop := WP d n_Mo_held 0 [some (.inr (.inr a0)), some (.inl a1), some (.inl a2), some (.inl a3)] [] m h Q
set_option maxRecDepth 100000 in
set_option maxHeartbeats 8000000 in
theorem s_Mo_held_0 (d : Nat) (a0 a1 a2 a3 : Int) (m : zM) (h : zH) (Q : zQ) (H :
  kd h a0 = 13 ∧ zcal WP d n_Mo_isRun [.inr (.inr a0), .inl a1, .inl a2] m h (zk1 fun r1 m1 h1 =>
  (r1 ≠ 0 →
    kd h1 a0 = 13 ∧ zcal WP d n_Mo_goes [.inr (.inr a0), .inl a2] m1 h1 (zk0 fun m2 h2 =>
    kd h2 a0 = 13 ∧ kd h2 (m2 a0 86) = 101 ∧ (0 : Int) ≤ a1 ∧ a1 < ln h2 (m2 a0 86) ∧ ((m2 (m2 a0 86) a1) = 0 →
      (a3 = 0 →
        kd h2 a0 = 13 ∧ kd h2 (m2 a0 88) = 101 ∧ (0 : Int) ≤ a1 ∧ a1 < ln h2 (m2 a0 88) ∧ Q (some (.inl (m2 (m2 a0 88) a1))) m2 h2) ∧
      (¬ a3 = 0 →
      (a3 = 1 →
        kd h2 a0 = 13 ∧ kd h2 (m2 a0 89) = 101 ∧ (0 : Int) ≤ a1 ∧ a1 < ln h2 (m2 a0 89) ∧ Q (some (.inl (m2 (m2 a0 89) a1))) m2 h2) ∧
      (¬ a3 = 1 →
      (a3 = 2 →
        kd h2 a0 = 13 ∧ kd h2 (m2 a0 90) = 101 ∧ (0 : Int) ≤ a1 ∧ a1 < ln h2 (m2 a0 90) ∧ Q (some (.inl (m2 (m2 a0 90) a1))) m2 h2) ∧
      (¬ a3 = 2 →
      (a3 = 3 →
        kd h2 a0 = 13 ∧ kd h2 (m2 a0 91) = 103 ∧ (0 : Int) ≤ a1 ∧ a1 < ln h2 (m2 a0 91) ∧ ((m2 (m2 a0 91) a1) = 0 →
          Q (some (.inl (0 : Int))) m2 h2) ∧
        (¬ ((m2 (m2 a0 91) a1) = 0) →
          Q (some (.inl (1 : Int))) m2 h2)) ∧
      (¬ a3 = 3 →
      (a3 = 4 →
        kd h2 a0 = 13 ∧ kd h2 (m2 a0 92) = 101 ∧ (0 : Int) ≤ a1 ∧ a1 < ln h2 (m2 a0 92) ∧ Q (some (.inl (m2 (m2 a0 92) a1))) m2 h2) ∧
      (¬ a3 = 4 →
        Q (some (.inl ((-1)))) m2 h2)))))) ∧
    (¬ ((m2 (m2 a0 86) a1) = 0) →
      Q (some (.inl ((-1)))) m2 h2))) ∧
  (¬ (r1 ≠ 0) →
    Q (some (.inl ((-1)))) m1 h1))) : q_Mo_held_0 d a0 a1 a2 a3 m h Q := zvc_ok zc_Mo_held zm_Mo_held 51 (fun _ => rfl) H
theorem e_Mo_held (d : Nat) (a0 a1 a2 a3 : Int) (m : zM) (h : zH) (Q : zQ) (H : q_Mo_held_0 d a0 a1 a2 a3 m h Q) : zcal WP (d + 1) n_Mo_held [.inr (.inr a0), .inl a1, .inl a2, .inl a3] m h Q := zcal_mk rfl H
def zm_Mo_bar : Nat → Option (List Bool) := fun pc => none
abbrev q_Mo_bar_0 (d : Nat) (a0 a1 a2 : Int) (m : zM) (h : zH) (Q : zQ) : Prop := WP d n_Mo_bar 0 [some (.inr (.inr a0)), some (.inl a1), some (.inl a2)] [] m h Q
set_option maxRecDepth 100000 in
set_option maxHeartbeats 8000000 in
theorem s_Mo_bar_0 (d : Nat) (a0 a1 a2 : Int) (m : zM) (h : zH) (Q : zQ) (H :
  kd h a0 = 13 ∧ zcal WP d n_Mo_isRun [.inr (.inr a0), .inl a1, .inl a2] m h (zk1 fun r1 m1 h1 =>
  (r1 ≠ 0 →
    kd h1 a0 = 13 ∧ zcal WP d n_Mo_goes [.inr (.inr a0), .inl a2] m1 h1 (zk0 fun m2 h2 =>
    kd h2 a0 = 13 ∧ kd h2 (m2 a0 86) = 101 ∧ (0 : Int) ≤ a1 ∧ a1 < ln h2 (m2 a0 86) ∧ ((m2 (m2 a0 86) a1) ≠ 4 →
      Q (some (.inl ((-1)))) m2 h2) ∧
    (¬ ((m2 (m2 a0 86) a1) ≠ 4) →
      kd h2 a0 = 13 ∧ kd h2 (m2 a0 87) = 101 ∧ (0 : Int) ≤ a1 ∧ a1 < ln h2 (m2 a0 87) ∧ Q (some (.inl (m2 (m2 a0 87) a1))) m2 h2))) ∧
  (¬ (r1 ≠ 0) →
    Q (some (.inl ((-1)))) m1 h1))) : q_Mo_bar_0 d a0 a1 a2 m h Q := zvc_ok zc_Mo_bar zm_Mo_bar 24 (fun _ => rfl) H
theorem e_Mo_bar (d : Nat) (a0 a1 a2 : Int) (m : zM) (h : zH) (Q : zQ) (H : q_Mo_bar_0 d a0 a1 a2 m h Q) : zcal WP (d + 1) n_Mo_bar [.inr (.inr a0), .inl a1, .inl a2] m h Q := zcal_mk rfl H
def zm_Mo_due : Nat → Option (List Bool) := fun pc => none
abbrev q_Mo_due_0 (d : Nat) (a0 a1 a2 a3 : Int) (m : zM) (h : zH) (Q : zQ) : Prop := WP d n_Mo_due 0 [some (.inr (.inr a0)), some (.inl a1), some (.inl a2), some (.inl a3)] [] m h Q
set_option maxRecDepth 100000 in
set_option maxHeartbeats 8000000 in
theorem s_Mo_due_0 (d : Nat) (a0 a1 a2 a3 : Int) (m : zM) (h : zH) (Q : zQ) (H :
  kd h a0 = 13 ∧ zcal WP d n_Mo_isEngine [.inr (.inr a0), .inl a1] m h (zk1 fun r1 m1 h1 =>
  (r1 = 0 →
    Q (some (.inl ((-1)))) m1 h1) ∧
  (¬ (r1 = 0) →
    zcal WP d n_Mo_isDay [.inl a2] m1 h1 (zk1 fun r2 m2 h2 =>
    (r2 = 0 →
      Q (some (.inl ((-1)))) m2 h2) ∧
    (¬ (r2 = 0) →
      kd h2 a0 = 13 ∧ zcal WP d n_Mo_isKnown [.inr (.inr a0), .inl a3] m2 h2 (zk1 fun r3 m3 h3 =>
      (r3 ≠ 0 →
        kd h3 a0 = 13 ∧ zcal WP d n_Mo_goes [.inr (.inr a0), .inl a3] m3 h3 (zk0 fun m4 h4 =>
        kd h4 a0 = 13 ∧ kd h4 (m4 a0 85) = 103 ∧ (0 : Int) ≤ (w32 ((w32 (9 * a2)) + a1)) ∧ (w32 ((w32 (9 * a2)) + a1)) < ln h4 (m4 a0 85) ∧ ((m4 (m4 a0 85) (w32 ((w32 (9 * a2)) + a1))) = 0 →
          Q (some (.inl (0 : Int))) m4 h4) ∧
        (¬ ((m4 (m4 a0 85) (w32 ((w32 (9 * a2)) + a1))) = 0) →
          Q (some (.inl (1 : Int))) m4 h4))) ∧
      (¬ (r3 ≠ 0) →
        Q (some (.inl ((-1)))) m3 h3))))))) : q_Mo_due_0 d a0 a1 a2 a3 m h Q := zvc_ok zc_Mo_due zm_Mo_due 30 (fun _ => rfl) H
theorem e_Mo_due (d : Nat) (a0 a1 a2 a3 : Int) (m : zM) (h : zH) (Q : zQ) (H : q_Mo_due_0 d a0 a1 a2 a3 m h Q) : zcal WP (d + 1) n_Mo_due [.inr (.inr a0), .inl a1, .inl a2, .inl a3] m h Q := zcal_mk rfl H
def zm_Mo_beyond : Nat → Option (List Bool) := fun pc => bif Nat.beq pc 38 then some [true, true, true, true, true, true] else (none)
abbrev q_Mo_beyond_0 (d : Nat) (a0 a1 a2 a3 : Int) (m : zM) (h : zH) (Q : zQ) : Prop := WP d n_Mo_beyond 0 [some (.inr (.inr a0)), some (.inl a1), some (.inl a2), some (.inl a3), none, none] [] m h Q
abbrev q_Mo_beyond_38 (d : Nat) (a0 a1 a2 a3 a4 a5 : Int) (m : zM) (h : zH) (Q : zQ) : Prop := WP d n_Mo_beyond 38 [some (.inr (.inr a0)), some (.inl a1), some (.inl a2), some (.inl a3), some (.inl a4), some (.inl a5)] [] m h Q
set_option maxRecDepth 100000 in
set_option maxHeartbeats 8000000 in
theorem s_Mo_beyond_0 (d : Nat) (a0 a1 a2 a3 : Int) (m : zM) (h : zH) (Q : zQ) (H :
  zcal WP d n_Mo_isDay [.inl a1] m h (zk1 fun r1 m1 h1 =>
  (r1 = 0 →
    Q (some (.inl ((-1)))) m1 h1) ∧
  (¬ (r1 = 0) →
    zcal WP d n_Mo_in [.inl a2, .inl a1, .inl 119] m1 h1 (zk1 fun r2 m2 h2 =>
    (r2 = 0 →
      Q (some (.inl ((-1)))) m2 h2) ∧
    (¬ (r2 = 0) →
      kd h2 a0 = 13 ∧ zcal WP d n_Mo_isKnown [.inr (.inr a0), .inl a3] m2 h2 (zk1 fun r3 m3 h3 =>
      (r3 ≠ 0 →
        kd h3 a0 = 13 ∧ zcal WP d n_Mo_goes [.inr (.inr a0), .inl a3] m3 h3 (zk0 fun m4 h4 =>
        q_Mo_beyond_38 d a0 a1 a2 a3 0 0 m4 h4 Q)) ∧
      (¬ (r3 ≠ 0) →
        Q (some (.inl ((-1)))) m3 h3))))))) : q_Mo_beyond_0 d a0 a1 a2 a3 m h Q := zvc_ok zc_Mo_beyond zm_Mo_beyond 54 (fun _ => rfl) H
set_option maxRecDepth 100000 in
set_option maxHeartbeats 8000000 in
theorem s_Mo_beyond_38 (d : Nat) (a0 a1 a2 a3 a4 a5 : Int) (m : zM) (h : zH) (Q : zQ) (H :
  (a3 ≤ a5 →
    Q (some (.inl a4)) m h) ∧
  (¬ (a3 ≤ a5) →
    kd h a0 = 13 ∧ kd h (m a0 62) = 101 ∧ (0 : Int) ≤ a5 ∧ a5 < ln h (m a0 62) ∧ ((m (m a0 62) a5) ≠ 8 →
      q_Mo_beyond_38 d a0 a1 a2 a3 a4 (w32 (a5 + 1)) m h Q) ∧
    (¬ ((m (m a0 62) a5) ≠ 8) →
      kd h a0 = 13 ∧ kd h (m a0 86) = 101 ∧ (0 : Int) ≤ a5 ∧ a5 < ln h (m a0 86) ∧ ((m (m a0 86) a5) ≠ 0 →
        q_Mo_beyond_38 d a0 a1 a2 a3 a4 (w32 (a5 + 1)) m h Q) ∧
      (¬ ((m (m a0 86) a5) ≠ 0) →
        kd h a0 = 13 ∧ kd h (m a0 91) = 103 ∧ (0 : Int) ≤ a5 ∧ a5 < ln h (m a0 91) ∧ ((m (m a0 91) a5) = 0 →
          q_Mo_beyond_38 d a0 a1 a2 a3 a4 (w32 (a5 + 1)) m h Q) ∧
        (¬ ((m (m a0 91) a5) = 0) →
          kd h a0 = 13 ∧ kd h (m a0 63) = 101 ∧ (0 : Int) ≤ a5 ∧ a5 < ln h (m a0 63) ∧ zcal WP d n_Mo_in [.inl (m (m a0 63) a5), .inl a1, .inl a2] m h (zk1 fun r1 m1 h1 =>
          (r1 = 0 →
            q_Mo_beyond_38 d a0 a1 a2 a3 a4 (w32 (a5 + 1)) m1 h1 Q) ∧
          (¬ (r1 = 0) →
            q_Mo_beyond_38 d a0 a1 a2 a3 (w32 (a4 + 1)) (w32 (a5 + 1)) m1 h1 Q))))))) : q_Mo_beyond_38 d a0 a1 a2 a3 a4 a5 m h Q := zvc_ok zc_Mo_beyond zm_Mo_beyond 54 (fun _ => rfl) H
theorem e_Mo_beyond (d : Nat) (a0 a1 a2 a3 : Int) (m : zM) (h : zH) (Q : zQ) (H : q_Mo_beyond_0 d a0 a1 a2 a3 m h Q) : zcal WP (d + 1) n_Mo_beyond [.inr (.inr a0), .inl a1, .inl a2, .inl a3] m h Q := zcal_mk rfl H
def zm_Mo_help : Nat → Option (List Bool) := fun pc => bif Nat.beq pc 53 then some [true, true, true, true, true, true, false, false, false] else (none)
abbrev q_Mo_help_0 (d : Nat) (a0 a1 a2 : Int) (m : zM) (h : zH) (Q : zQ) : Prop := WP d n_Mo_help 0 [some (.inr (.inr a0)), some (.inl a1), some (.inl a2), none, none, none, none, none, none] [] m h Q
abbrev q_Mo_help_53 (d : Nat) (a0 a1 a2 a3 a4 a5 : Int) (m : zM) (h : zH) (Q : zQ) : Prop := WP d n_Mo_help 53 [some (.inr (.inr a0)), some (.inl a1), some (.inl a2), some (.inl a3), some (.inl a4), some (.inl a5), none, none, none] [] m h Q
set_option maxRecDepth 100000 in
set_option maxHeartbeats 8000000 in
theorem s_Mo_help_0 (d : Nat) (a0 a1 a2 : Int) (m : zM) (h : zH) (Q : zQ) (H :
  kd h a0 = 13 ∧ zcal WP d n_Mo_isKnown [.inr (.inr a0), .inl a2] m h (zk1 fun r1 m1 h1 =>
  (r1 = 0 →
    Q (some (.inl ((-1)))) m1 h1) ∧
  (¬ (r1 = 0) →
    (a1 < 0 →
      Q (some (.inl ((-1)))) m1 h1) ∧
    (¬ (a1 < 0) →
      (a2 ≤ a1 →
        Q (some (.inl ((-1)))) m1 h1) ∧
      (¬ (a2 ≤ a1) →
        kd h1 a0 = 13 ∧ kd h1 (m1 a0 62) = 101 ∧ (0 : Int) ≤ a1 ∧ a1 < ln h1 (m1 a0 62) ∧ ((m1 (m1 a0 62) a1) = 5 →
          kd h1 a0 = 13 ∧ zcal WP d n_Mo_goes [.inr (.inr a0), .inl a2] m1 h1 (zk0 fun m2 h2 =>
          kd h2 a0 = 13 ∧ kd h2 (m2 a0 93) = 103 ∧ (0 : Int) ≤ a1 ∧ a1 < ln h2 (m2 a0 93) ∧ ((m2 (m2 a0 93) a1) ≠ 0 →
            q_Mo_help_53 d a0 a1 a2 ((-1)) 0 0 m2 h2 Q) ∧
          (¬ ((m2 (m2 a0 93) a1) ≠ 0) →
            Q (some (.inl ((-1)))) m2 h2))) ∧
        (¬ ((m1 (m1 a0 62) a1) = 5) →
          Q (some (.inl ((-1)))) m1 h1)))))) : q_Mo_help_0 d a0 a1 a2 m h Q := zvc_ok zc_Mo_help zm_Mo_help 137 (fun _ => rfl) H
set_option maxRecDepth 100000 in
set_option maxHeartbeats 8000000 in
theorem s_Mo_help_53 (d : Nat) (a0 a1 a2 a3 a4 a5 : Int) (m : zM) (h : zH) (Q : zQ) (H :
  (a2 ≤ a5 →
    (a3 ≠ ((-1)) →
      Q (some (.inl a3)) m h) ∧
    (¬ (a3 ≠ ((-1))) →
      Q (some (.inl ((-2)))) m h)) ∧
  (¬ (a2 ≤ a5) →
    kd h a0 = 13 ∧ kd h (m a0 64) = 101 ∧ (0 : Int) ≤ a5 ∧ a5 < ln h (m a0 64) ∧ kd h a0 = 13 ∧ kd h (m a0 62) = 101 ∧ (0 : Int) ≤ a5 ∧ a5 < ln h (m a0 62) ∧ ((m (m a0 62) a5) ≠ 8 →
      q_Mo_help_53 d a0 a1 a2 a3 a4 (w32 (a5 + 1)) m h Q) ∧
    (¬ ((m (m a0 62) a5) ≠ 8) →
      kd h a0 = 13 ∧ kd h (m a0 86) = 101 ∧ (0 : Int) ≤ a5 ∧ a5 < ln h (m a0 86) ∧ ((m (m a0 86) a5) ≠ 0 →
        q_Mo_help_53 d a0 a1 a2 a3 a4 (w32 (a5 + 1)) m h Q) ∧
      (¬ ((m (m a0 86) a5) ≠ 0) →
        kd h a0 = 13 ∧ kd h (m a0 63) = 101 ∧ (0 : Int) ≤ a5 ∧ a5 < ln h (m a0 63) ∧ kd h a0 = 13 ∧ kd h (m a0 63) = 101 ∧ (0 : Int) ≤ a1 ∧ a1 < ln h (m a0 63) ∧ ((m (m a0 63) a5) ≠ (m (m a0 63) a1) →
          q_Mo_help_53 d a0 a1 a2 a3 a4 (w32 (a5 + 1)) m h Q) ∧
        (¬ ((m (m a0 63) a5) ≠ (m (m a0 63) a1)) →
          kd h a0 = 13 ∧ kd h (m a0 64) = 101 ∧ (0 : Int) ≤ a1 ∧ a1 < ln h (m a0 64) ∧ ((m (m a0 64) a5) ≠ (m (m a0 64) a1) →
            kd h a0 = 13 ∧ kd h (m a0 65) = 101 ∧ (0 : Int) ≤ a5 ∧ a5 < ln h (m a0 65) ∧ kd h a0 = 13 ∧ kd h (m a0 60) = 103 ∧ (0 : Int) ≤ (m (m a0 65) a5) ∧ (m (m a0 65) a5) < ln h (m a0 60) ∧ ((m (m a0 60) (m (m a0 65) a5)) = 0 →
              q_Mo_help_53 d a0 a1 a2 a3 a4 (w32 (a5 + 1)) m h Q) ∧
            (¬ ((m (m a0 60) (m (m a0 65) a5)) = 0) →
              kd h a0 = 13 ∧ kd h (m a0 65) = 101 ∧ (0 : Int) ≤ a1 ∧ a1 < ln h (m a0 65) ∧ kd h a0 = 13 ∧ kd h (m a0 55) = 101 ∧ (0 : Int) ≤ (m (m a0 65) a5) ∧ (m (m a0 65) a5) < ln h (m a0 55) ∧ kd h a0 = 13 ∧ kd h (m a0 56) = 101 ∧ (0 : Int) ≤ (m (m a0 65) a5) ∧ (m (m a0 65) a5) < ln h (m a0 56) ∧ zcal WP d n_Mo_in [.inl (m (m a0 65) a1), .inl (m (m a0 55) (m (m a0 65) a5)), .inl (w32 ((m (m a0 56) (m (m a0 65) a5)) - 1))] m h (zk1 fun r1 m1 h1 =>
              (r1 ≠ 0 →
                kd h1 a0 = 13 ∧ kd h1 a0 = 13 ∧ kd h1 (m1 a0 53) = 101 ∧ (0 : Int) ≤ (m (m a0 65) a5) ∧ (m (m a0 65) a5) < ln h1 (m1 a0 53) ∧ kd h1 a0 = 13 ∧ kd h1 (m1 a0 94) = 101 ∧ (0 : Int) ≤ a1 ∧ a1 < ln h1 (m1 a0 94) ∧ kd h1 (m1 a0 46) = 101 ∧ (0 : Int) ≤ (w32 ((w32 (5 * (m1 (m1 a0 53) (m (m a0 65) a5)))) + (m1 (m1 a0 94) a1))) ∧ (w32 ((w32 (5 * (m1 (m1 a0 53) (m (m a0 65) a5)))) + (m1 (m1 a0 94) a1))) < ln h1 (m1 a0 46) ∧ (a3 = ((-1)) →
                  q_Mo_help_53 d a0 a1 a2 (m (m a0 64) a5) (m1 (m1 a0 46) (w32 ((w32 (5 * (m1 (m1 a0 53) (m (m a0 65) a5)))) + (m1 (m1 a0 94) a1)))) (w32 (a5 + 1)) m1 h1 Q) ∧
                (¬ (a3 = ((-1))) →
                  (a4 < (m1 (m1 a0 46) (w32 ((w32 (5 * (m1 (m1 a0 53) (m (m a0 65) a5)))) + (m1 (m1 a0 94) a1)))) →
                    q_Mo_help_53 d a0 a1 a2 a3 a4 (w32 (a5 + 1)) m1 h1 Q) ∧
                  (¬ (a4 < (m1 (m1 a0 46) (w32 ((w32 (5 * (m1 (m1 a0 53) (m (m a0 65) a5)))) + (m1 (m1 a0 94) a1))))) →
                    ((m1 (m1 a0 46) (w32 ((w32 (5 * (m1 (m1 a0 53) (m (m a0 65) a5)))) + (m1 (m1 a0 94) a1)))) ≠ a4 →
                      q_Mo_help_53 d a0 a1 a2 (m (m a0 64) a5) (m1 (m1 a0 46) (w32 ((w32 (5 * (m1 (m1 a0 53) (m (m a0 65) a5)))) + (m1 (m1 a0 94) a1)))) (w32 (a5 + 1)) m1 h1 Q) ∧
                    (¬ ((m1 (m1 a0 46) (w32 ((w32 (5 * (m1 (m1 a0 53) (m (m a0 65) a5)))) + (m1 (m1 a0 94) a1)))) ≠ a4) →
                      ((m (m a0 64) a5) < a3 →
                        q_Mo_help_53 d a0 a1 a2 (m (m a0 64) a5) (m1 (m1 a0 46) (w32 ((w32 (5 * (m1 (m1 a0 53) (m (m a0 65) a5)))) + (m1 (m1 a0 94) a1)))) (w32 (a5 + 1)) m1 h1 Q) ∧
                      (¬ ((m (m a0 64) a5) < a3) →
                        q_Mo_help_53 d a0 a1 a2 a3 a4 (w32 (a5 + 1)) m1 h1 Q))))) ∧
              (¬ (r1 ≠ 0) →
                q_Mo_help_53 d a0 a1 a2 a3 a4 (w32 (a5 + 1)) m1 h1 Q)))) ∧
          (¬ ((m (m a0 64) a5) ≠ (m (m a0 64) a1)) →
            q_Mo_help_53 d a0 a1 a2 a3 a4 (w32 (a5 + 1)) m h Q)))))) : q_Mo_help_53 d a0 a1 a2 a3 a4 a5 m h Q := zvc_ok zc_Mo_help zm_Mo_help 137 (fun _ => rfl) H
theorem e_Mo_help (d : Nat) (a0 a1 a2 : Int) (m : zM) (h : zH) (Q : zQ) (H : q_Mo_help_0 d a0 a1 a2 m h Q) : zcal WP (d + 1) n_Mo_help [.inr (.inr a0), .inl a1, .inl a2] m h Q := zcal_mk rfl H
def zm_Mo_coal : Nat → Option (List Bool) := fun pc => bif Nat.beq pc 38 then some [true, true, true, true, true, true] else (bif Nat.beq pc 90 then some [true, true, true, true, true, true] else (none))
abbrev q_Mo_coal_0 (d : Nat) (a0 a1 a2 a3 : Int) (m : zM) (h : zH) (Q : zQ) : Prop := WP d n_Mo_coal 0 [some (.inr (.inr a0)), some (.inl a1), some (.inl a2), some (.inl a3), none, none] [] m h Q
abbrev q_Mo_coal_38 (d : Nat) (a0 a1 a2 a3 a4 a5 : Int) (m : zM) (h : zH) (Q : zQ) : Prop := WP d n_Mo_coal 38 [some (.inr (.inr a0)), some (.inl a1), some (.inl a2), some (.inl a3), some (.inl a4), some (.inl a5)] [] m h Q
abbrev q_Mo_coal_90 (d : Nat) (a0 a1 a2 a3 a4 a5 : Int) (m : zM) (h : zH) (Q : zQ) : Prop := WP d n_Mo_coal 90 [some (.inr (.inr a0)), some (.inl a1), some (.inl a2), some (.inl a3), some (.inl a4), some (.inl a5)] [] m h Q
set_option maxRecDepth 100000 in
set_option maxHeartbeats 8000000 in
theorem s_Mo_coal_0 (d : Nat) (a0 a1 a2 a3 : Int) (m : zM) (h : zH) (Q : zQ) (H :
  kd h a0 = 13 ∧ zcal WP d n_Mo_isShed [.inr (.inr a0), .inl a1] m h (zk1 fun r1 m1 h1 =>
  (r1 = 0 →
    Q (some (.inl ((-1000000)))) m1 h1) ∧
  (¬ (r1 = 0) →
    zcal WP d n_Mo_isDay [.inl a2] m1 h1 (zk1 fun r2 m2 h2 =>
    (r2 = 0 →
      Q (some (.inl ((-1000000)))) m2 h2) ∧
    (¬ (r2 = 0) →
      kd h2 a0 = 13 ∧ zcal WP d n_Mo_isKnown [.inr (.inr a0), .inl a3] m2 h2 (zk1 fun r3 m3 h3 =>
      (r3 ≠ 0 →
        kd h3 a0 = 13 ∧ zcal WP d n_Mo_goes [.inr (.inr a0), .inl a3] m3 h3 (zk0 fun m4 h4 =>
        q_Mo_coal_38 d a0 a1 a2 a3 0 0 m4 h4 Q)) ∧
      (¬ (r3 ≠ 0) →
        Q (some (.inl ((-1000000)))) m3 h3))))))) : q_Mo_coal_0 d a0 a1 a2 a3 m h Q := zvc_ok zc_Mo_coal zm_Mo_coal 86 (fun _ => rfl) H
set_option maxRecDepth 100000 in
set_option maxHeartbeats 8000000 in
theorem s_Mo_coal_38 (d : Nat) (a0 a1 a2 a3 a4 a5 : Int) (m : zM) (h : zH) (Q : zQ) (H :
  (a3 ≤ a5 →
    Q (some (.inl a4)) m h) ∧
  (¬ (a3 ≤ a5) →
    kd h a0 = 13 ∧ kd h (m a0 62) = 101 ∧ (0 : Int) ≤ a5 ∧ a5 < ln h (m a0 62) ∧ ((m (m a0 62) a5) ≠ 7 →
      q_Mo_coal_90 d a0 a1 a2 a3 a4 a5 m h Q) ∧
    (¬ ((m (m a0 62) a5) ≠ 7) →
      kd h a0 = 13 ∧ kd h (m a0 65) = 101 ∧ (0 : Int) ≤ a5 ∧ a5 < ln h (m a0 65) ∧ ((m (m a0 65) a5) ≠ a1 →
        q_Mo_coal_90 d a0 a1 a2 a3 a4 a5 m h Q) ∧
      (¬ ((m (m a0 65) a5) ≠ a1) →
        kd h a0 = 13 ∧ kd h (m a0 63) = 101 ∧ (0 : Int) ≤ a5 ∧ a5 < ln h (m a0 63) ∧ (a2 < (m (m a0 63) a5) →
          q_Mo_coal_90 d a0 a1 a2 a3 a4 a5 m h Q) ∧
        (¬ (a2 < (m (m a0 63) a5)) →
          kd h a0 = 13 ∧ kd h (m a0 66) = 101 ∧ (0 : Int) ≤ a5 ∧ a5 < ln h (m a0 66) ∧ q_Mo_coal_90 d a0 a1 a2 a3 (w32 (a4 + (m (m a0 66) a5))) a5 m h Q))))) : q_Mo_coal_38 d a0 a1 a2 a3 a4 a5 m h Q := zvc_ok zc_Mo_coal zm_Mo_coal 86 (fun _ => rfl) H
set_option maxRecDepth 100000 in
set_option maxHeartbeats 8000000 in
theorem s_Mo_coal_90 (d : Nat) (a0 a1 a2 a3 a4 a5 : Int) (m : zM) (h : zH) (Q : zQ) (H :
  kd h a0 = 13 ∧ kd h (m a0 62) = 101 ∧ (0 : Int) ≤ a5 ∧ a5 < ln h (m a0 62) ∧ ((m (m a0 62) a5) ≠ 8 →
    q_Mo_coal_38 d a0 a1 a2 a3 a4 (w32 (a5 + 1)) m h Q) ∧
  (¬ ((m (m a0 62) a5) ≠ 8) →
    kd h a0 = 13 ∧ kd h (m a0 86) = 101 ∧ (0 : Int) ≤ a5 ∧ a5 < ln h (m a0 86) ∧ ((m (m a0 86) a5) ≠ 0 →
      q_Mo_coal_38 d a0 a1 a2 a3 a4 (w32 (a5 + 1)) m h Q) ∧
    (¬ ((m (m a0 86) a5) ≠ 0) →
      kd h a0 = 13 ∧ kd h a0 = 13 ∧ kd h (m a0 65) = 101 ∧ (0 : Int) ≤ a5 ∧ a5 < ln h (m a0 65) ∧ kd h (m a0 53) = 101 ∧ (0 : Int) ≤ (m (m a0 65) a5) ∧ (m (m a0 65) a5) < ln h (m a0 53) ∧ ((m (m a0 53) (m (m a0 65) a5)) ≠ a1 →
        q_Mo_coal_38 d a0 a1 a2 a3 a4 (w32 (a5 + 1)) m h Q) ∧
      (¬ ((m (m a0 53) (m (m a0 65) a5)) ≠ a1) →
        kd h a0 = 13 ∧ kd h (m a0 63) = 101 ∧ (0 : Int) ≤ a5 ∧ a5 < ln h (m a0 63) ∧ (a2 < (m (m a0 63) a5) →
          q_Mo_coal_38 d a0 a1 a2 a3 a4 (w32 (a5 + 1)) m h Q) ∧
        (¬ (a2 < (m (m a0 63) a5)) →
          kd h a0 = 13 ∧ kd h (m a0 90) = 101 ∧ (0 : Int) ≤ a5 ∧ a5 < ln h (m a0 90) ∧ q_Mo_coal_38 d a0 a1 a2 a3 (w32 (a4 - (m (m a0 90) a5))) (w32 (a5 + 1)) m h Q))))) : q_Mo_coal_90 d a0 a1 a2 a3 a4 a5 m h Q := zvc_ok zc_Mo_coal zm_Mo_coal 86 (fun _ => rfl) H
theorem e_Mo_coal (d : Nat) (a0 a1 a2 a3 : Int) (m : zM) (h : zH) (Q : zQ) (H : q_Mo_coal_0 d a0 a1 a2 a3 m h Q) : zcal WP (d + 1) n_Mo_coal [.inr (.inr a0), .inl a1, .inl a2, .inl a3] m h Q := zcal_mk rfl H
def zm_Mo_owes : Nat → Option (List Bool) := fun pc => bif Nat.beq pc 63 then some [true, true, true, true, true, false, true, true, false] else (bif Nat.beq pc 91 then some [true, true, true, true, true, false, true, true, false] else (bif Nat.beq pc 132 then some [true, true, true, true, true, false, true, true, true] else (none)))
abbrev q_Mo_owes_0 (d : Nat) (a0 a1 a2 a3 a4 a5 : Int) (m : zM) (h : zH) (Q : zQ) : Prop := WP d n_Mo_owes 0 [some (.inr (.inr a0)), some (.inl a1), some (.inl a2), some (.inl a3), some (.inl a4), some (.inl a5), none, none, none] [] m h Q
abbrev q_Mo_owes_63 (d : Nat) (a0 a1 a2 a3 a4 a6 a7 : Int) (m : zM) (h : zH) (Q : zQ) : Prop := WP d n_Mo_owes 63 [some (.inr (.inr a0)), some (.inl a1), some (.inl a2), some (.inl a3), some (.inl a4), none, some (.inl a6), some (.inl a7), none] [] m h Q
abbrev q_Mo_owes_91 (d : Nat) (a0 a1 a2 a3 a4 a6 a7 : Int) (m : zM) (h : zH) (Q : zQ) : Prop := WP d n_Mo_owes 91 [some (.inr (.inr a0)), some (.inl a1), some (.inl a2), some (.inl a3), some (.inl a4), none, some (.inl a6), some (.inl a7), none] [] m h Q
abbrev q_Mo_owes_132 (d : Nat) (a0 a1 a2 a3 a4 a6 a7 a8 : Int) (m : zM) (h : zH) (Q : zQ) : Prop := WP d n_Mo_owes 132 [some (.inr (.inr a0)), some (.inl a1), some (.inl a2), some (.inl a3), some (.inl a4), none, some (.inl a6), some (.inl a7), some (.inl a8)] [] m h Q
set_option maxRecDepth 100000 in
set_option maxHeartbeats 8000000 in
theorem s_Mo_owes_0 (d : Nat) (a0 a1 a2 a3 a4 a5 : Int) (m : zM) (h : zH) (Q : zQ) (H :
  kd h a0 = 13 ∧ zcal WP d n_Mo_isShed [.inr (.inr a0), .inl a1] m h (zk1 fun r1 m1 h1 =>
  (r1 = 0 →
    Q (some (.inl ((-1000000)))) m1 h1) ∧
  (¬ (r1 = 0) →
    kd h1 a0 = 13 ∧ zcal WP d n_Mo_isShed [.inr (.inr a0), .inl a2] m1 h1 (zk1 fun r2 m2 h2 =>
    (r2 = 0 →
      Q (some (.inl ((-1000000)))) m2 h2) ∧
    (¬ (r2 = 0) →
      (a1 = a2 →
        Q (some (.inl ((-1000000)))) m2 h2) ∧
      (¬ (a1 = a2) →
        zcal WP d n_Mo_in [.inl a3, .inl ((-1)), .inl 5] m2 h2 (zk1 fun r3 m3 h3 =>
        (r3 = 0 →
          Q (some (.inl ((-1000000)))) m3 h3) ∧
        (¬ (r3 = 0) →
          zcal WP d n_Mo_isDay [.inl a4] m3 h3 (zk1 fun r4 m4 h4 =>
          (r4 = 0 →
            Q (some (.inl ((-1000000)))) m4 h4) ∧
          (¬ (r4 = 0) →
            kd h4 a0 = 13 ∧ zcal WP d n_Mo_isKnown [.inr (.inr a0), .inl a5] m4 h4 (zk1 fun r5 m5 h5 =>
            (r5 ≠ 0 →
              kd h5 a0 = 13 ∧ zcal WP d n_Mo_goes [.inr (.inr a0), .inl a5] m5 h5 (zk0 fun m6 h6 =>
              q_Mo_owes_63 d a0 a1 a2 a3 a4 0 0 m6 h6 Q)) ∧
            (¬ (r5 ≠ 0) →
              Q (some (.inl ((-1000000)))) m5 h5)))))))))))) : q_Mo_owes_0 d a0 a1 a2 a3 a4 a5 m h Q := zvc_ok zc_Mo_owes zm_Mo_owes 84 (fun _ => rfl) H
set_option maxRecDepth 100000 in
set_option maxHeartbeats 8000000 in
theorem s_Mo_owes_63 (d : Nat) (a0 a1 a2 a3 a4 a6 a7 : Int) (m : zM) (h : zH) (Q : zQ) (H :
  kd h a0 = 13 ∧ ((m a0 47) ≤ a7 →
    Q (some (.inl a6)) m h) ∧
  (¬ ((m a0 47) ≤ a7) →
    (a3 = ((-1)) →
      q_Mo_owes_91 d a0 a1 a2 a3 a4 a6 a7 m h Q) ∧
    (¬ (a3 = ((-1))) →
      kd h a0 = 13 ∧ kd h (m a0 48) = 101 ∧ (0 : Int) ≤ a7 ∧ a7 < ln h (m a0 48) ∧ ((m (m a0 48) a7) = a3 →
        q_Mo_owes_91 d a0 a1 a2 a3 a4 a6 a7 m h Q) ∧
      (¬ ((m (m a0 48) a7) = a3) →
        q_Mo_owes_63 d a0 a1 a2 a3 a4 a6 (w32 (a7 + 1)) m h Q)))) : q_Mo_owes_63 d a0 a1 a2 a3 a4 a6 a7 m h Q := zvc_ok zc_Mo_owes zm_Mo_owes 84 (fun _ => rfl) H
set_option maxRecDepth 100000 in
set_option maxHeartbeats 8000000 in
theorem s_Mo_owes_91 (d : Nat) (a0 a1 a2 a3 a4 a6 a7 : Int) (m : zM) (h : zH) (Q : zQ) (H :
  kd h a0 = 13 ∧ kd h (m a0 83) = 101 ∧ (0 : Int) ≤ (w32 ((w32 (7 * (w32 ((w32 (9 * a4)) + a7)))) + 6)) ∧ (w32 ((w32 (7 * (w32 ((w32 (9 * a4)) + a7)))) + 6)) < ln h (m a0 83) ∧ ((m (m a0 83) (w32 ((w32 (7 * (w32 ((w32 (9 * a4)) + a7)))) + 6))) ≠ a1 →
    q_Mo_owes_132 d a0 a1 a2 a3 a4 a6 a7 (m (m a0 83) (w32 ((w32 (7 * (w32 ((w32 (9 * a4)) + a7)))) + 6))) m h Q) ∧
  (¬ ((m (m a0 83) (w32 ((w32 (7 * (w32 ((w32 (9 * a4)) + a7)))) + 6))) ≠ a1) →
    kd h a0 = 13 ∧ kd h (m a0 49) = 101 ∧ (0 : Int) ≤ a7 ∧ a7 < ln h (m a0 49) ∧ ((m (m a0 49) a7) ≠ a2 →
      q_Mo_owes_132 d a0 a1 a2 a3 a4 a6 a7 (m (m a0 83) (w32 ((w32 (7 * (w32 ((w32 (9 * a4)) + a7)))) + 6))) m h Q) ∧
    (¬ ((m (m a0 49) a7) ≠ a2) →
      q_Mo_owes_132 d a0 a1 a2 a3 a4 (w32 (a6 + 1)) a7 (m (m a0 83) (w32 ((w32 (7 * (w32 ((w32 (9 * a4)) + a7)))) + 6))) m h Q))) : q_Mo_owes_91 d a0 a1 a2 a3 a4 a6 a7 m h Q := zvc_ok zc_Mo_owes zm_Mo_owes 84 (fun _ => rfl) H
set_option maxRecDepth 100000 in
set_option maxHeartbeats 8000000 in
theorem s_Mo_owes_132 (d : Nat) (a0 a1 a2 a3 a4 a6 a7 a8 : Int) (m : zM) (h : zH) (Q : zQ) (H :
  (a8 ≠ a2 →
    q_Mo_owes_63 d a0 a1 a2 a3 a4 a6 (w32 (a7 + 1)) m h Q) ∧
  (¬ (a8 ≠ a2) →
    kd h a0 = 13 ∧ kd h (m a0 49) = 101 ∧ (0 : Int) ≤ a7 ∧ a7 < ln h (m a0 49) ∧ ((m (m a0 49) a7) ≠ a1 →
      q_Mo_owes_63 d a0 a1 a2 a3 a4 a6 (w32 (a7 + 1)) m h Q) ∧
    (¬ ((m (m a0 49) a7) ≠ a1) →
      q_Mo_owes_63 d a0 a1 a2 a3 a4 (w32 (a6 + (-1))) (w32 (a7 + 1)) m h Q))) : q_Mo_owes_132 d a0 a1 a2 a3 a4 a6 a7 a8 m h Q := zvc_ok zc_Mo_owes zm_Mo_owes 84 (fun _ => rfl) H
theorem e_Mo_owes (d : Nat) (a0 a1 a2 a3 a4 a5 : Int) (m : zM) (h : zH) (Q : zQ) (H : q_Mo_owes_0 d a0 a1 a2 a3 a4 a5 m h Q) : zcal WP (d + 1) n_Mo_owes [.inr (.inr a0), .inl a1, .inl a2, .inl a3, .inl a4, .inl a5] m h Q := zcal_mk rfl H
def zm_Mo_bits : Nat → Option (List Bool) := fun pc => bif Nat.beq pc 4 then some [true, true, true] else (none)
abbrev q_Mo_bits_0 (d : Nat) (a0 : Int) (m : zM) (h : zH) (Q : zQ) : Prop := WP d n_Mo_bits 0 [some (.inl a0), none, none] [] m h Q
abbrev q_Mo_bits_4 (d : Nat) (a0 a1 a2 : Int) (m : zM) (h : zH) (Q : zQ) : Prop := WP d n_Mo_bits 4 [some (.inl a0), some (.inl a1), some (.inl a2)] [] m h Q
set_option maxRecDepth 100000 in
set_option maxHeartbeats 8000000 in
theorem s_Mo_bits_0 (d : Nat) (a0 : Int) (m : zM) (h : zH) (Q : zQ) (H :
  q_Mo_bits_4 d a0 0 0 m h Q) : q_Mo_bits_0 d a0 m h Q := zvc_ok zc_Mo_bits zm_Mo_bits 20 (fun _ => rfl) H
set_option maxRecDepth 100000 in
set_option maxHeartbeats 8000000 in
theorem s_Mo_bits_4 (d : Nat) (a0 a1 a2 : Int) (m : zM) (h : zH) (Q : zQ) (H :
  ((30 : Int) ≤ a2 →
    Q (some (.inl a1)) m h) ∧
  (¬ ((30 : Int) ≤ a2) →
    q_Mo_bits_4 d a0 (w32 (a1 + (zand (zshr a0 a2) 1))) (w32 (a2 + 1)) m h Q)) : q_Mo_bits_4 d a0 a1 a2 m h Q := zvc_ok zc_Mo_bits zm_Mo_bits 20 (fun _ => rfl) H
theorem e_Mo_bits (d : Nat) (a0 : Int) (m : zM) (h : zH) (Q : zQ) (H : q_Mo_bits_0 d a0 m h Q) : zcal WP (d + 1) n_Mo_bits [.inl a0] m h Q := zcal_mk rfl H
def zm_Mo_prices : Nat → Option (List Bool) := fun pc => bif Nat.beq pc 7 then some [true, true, true, false, false, false] else (bif Nat.beq pc 17 then some [true, true, true, true, false, false] else (none))
abbrev q_Mo_prices_0 (d : Nat) (a0 a1 : Int) (m : zM) (h : zH) (Q : zQ) : Prop := WP d n_Mo_prices 0 [some (.inr (.inr a0)), some (.inl a1), none, none, none, none] [] m h Q
abbrev q_Mo_prices_7 (d : Nat) (a0 a1 a2 : Int) (m : zM) (h : zH) (Q : zQ) : Prop := WP d n_Mo_prices 7 [some (.inr (.inr a0)), some (.inl a1), some (.inl a2), none, none, none] [] m h Q
abbrev q_Mo_prices_17 (d : Nat) (a0 a1 a2 a3 : Int) (m : zM) (h : zH) (Q : zQ) : Prop := WP d n_Mo_prices 17 [some (.inr (.inr a0)), some (.inl a1), some (.inl a2), some (.inl a3), none, none] [] m h Q
set_option maxRecDepth 100000 in
set_option maxHeartbeats 8000000 in
theorem s_Mo_prices_0 (d : Nat) (a0 a1 : Int) (m : zM) (h : zH) (Q : zQ) (H :
  kd h a0 = 13 ∧ zcal WP d n_Mo_forces [.inr (.inr a0), .inl a1] m h (zk0 fun m1 h1 =>
  q_Mo_prices_7 d a0 a1 0 m1 h1 Q)) : q_Mo_prices_0 d a0 a1 m h Q := zvc_ok zc_Mo_prices zm_Mo_prices 114 (fun _ => rfl) H
set_option maxRecDepth 100000 in
set_option maxHeartbeats 8000000 in
theorem s_Mo_prices_7 (d : Nat) (a0 a1 a2 : Int) (m : zM) (h : zH) (Q : zQ) (H :
  kd h a0 = 13 ∧ ((m a0 98) ≤ a2 →
    Q none m h) ∧
  (¬ ((m a0 98) ≤ a2) →
    q_Mo_prices_17 d a0 a1 a2 0 m h Q)) : q_Mo_prices_7 d a0 a1 a2 m h Q := zvc_ok zc_Mo_prices zm_Mo_prices 114 (fun _ => rfl) H
set_option maxRecDepth 100000 in
set_option maxHeartbeats 8000000 in
theorem s_Mo_prices_17 (d : Nat) (a0 a1 a2 a3 : Int) (m : zM) (h : zH) (Q : zQ) (H :
  kd h a0 = 13 ∧ ((m a0 47) ≤ a3 →
    q_Mo_prices_7 d a0 a1 (w32 (a2 + 1)) m h Q) ∧
  (¬ ((m a0 47) ≤ a3) →
    kd h a0 = 13 ∧ kd h (m a0 97) = 101 ∧ (0 : Int) ≤ a2 ∧ a2 < ln h (m a0 97) ∧ kd h a0 = 13 ∧ kd h (m a0 96) = 101 ∧ 0 < (m a0 96) ∧ (0 : Int) ≤ (w32 ((w32 (9 * (m (m a0 97) a2))) + a3)) ∧ (w32 ((w32 (9 * (m (m a0 97) a2))) + a3)) < ln h (m a0 96) ∧ ∀ m1, m1 = zwr m (m a0 96) (w32 ((w32 (9 * (m (m a0 97) a2))) + a3)) 1000000 →
    kd h a0 = 13 ∧ kd h (m1 a0 84) = 101 ∧ (0 : Int) ≤ (w32 ((w32 (7 * (w32 ((w32 (9 * a1)) + a3)))) + 1)) ∧ (w32 ((w32 (7 * (w32 ((w32 (9 * a1)) + a3)))) + 1)) < ln h (m1 a0 84) ∧ ((m1 (m1 a0 84) (w32 ((w32 (7 * (w32 ((w32 (9 * a1)) + a3)))) + 1))) ≠ 0 →
      q_Mo_prices_17 d a0 a1 a2 (w32 (a3 + 1)) m1 h Q) ∧
    (¬ ((m1 (m1 a0 84) (w32 ((w32 (7 * (w32 ((w32 (9 * a1)) + a3)))) + 1))) ≠ 0) →
      kd h a0 = 13 ∧ kd h (m1 a0 84) = 101 ∧ (0 : Int) ≤ (w32 (7 * (w32 ((w32 (9 * a1)) + a3)))) ∧ (w32 (7 * (w32 ((w32 (9 * a1)) + a3)))) < ln h (m1 a0 84) ∧ kd h a0 = 13 ∧ kd h (m1 a0 53) = 101 ∧ (0 : Int) ≤ (m (m a0 97) a2) ∧ (m (m a0 97) a2) < ln h (m1 a0 53) ∧ ((m1 (m1 a0 84) (w32 (7 * (w32 ((w32 (9 * a1)) + a3))))) = (m1 (m1 a0 53) (m (m a0 97) a2)) →
        kd h a0 = 13 ∧ kd h (m1 a0 84) = 101 ∧ (0 : Int) ≤ (w32 ((w32 (7 * (w32 ((w32 (9 * a1)) + a3)))) + 2)) ∧ (w32 ((w32 (7 * (w32 ((w32 (9 * a1)) + a3)))) + 2)) < ln h (m1 a0 84) ∧ kd h a0 = 13 ∧ kd h (m1 a0 84) = 101 ∧ (0 : Int) ≤ (w32 ((w32 (7 * (w32 ((w32 (9 * a1)) + a3)))) + 3)) ∧ (w32 ((w32 (7 * (w32 ((w32 (9 * a1)) + a3)))) + 3)) < ln h (m1 a0 84) ∧ kd h a0 = 13 ∧ kd h (m1 a0 84) = 101 ∧ (0 : Int) ≤ (w32 ((w32 (7 * (w32 ((w32 (9 * a1)) + a3)))) + 4)) ∧ (w32 ((w32 (7 * (w32 ((w32 (9 * a1)) + a3)))) + 4)) < ln h (m1 a0 84) ∧ kd h a0 = 13 ∧ kd h (m1 a0 84) = 101 ∧ (0 : Int) ≤ (w32 ((w32 (7 * (w32 ((w32 (9 * a1)) + a3)))) + 5)) ∧ (w32 ((w32 (7 * (w32 ((w32 (9 * a1)) + a3)))) + 5)) < ln h (m1 a0 84) ∧ kd h a0 = 13 ∧ kd h (m1 a0 84) = 101 ∧ (0 : Int) ≤ (w32 ((w32 (7 * (w32 ((w32 (9 * a1)) + a3)))) + 6)) ∧ (w32 ((w32 (7 * (w32 ((w32 (9 * a1)) + a3)))) + 6)) < ln h (m1 a0 84) ∧ kd h a0 = 13 ∧ zcal WP d n_Mo_fills [.inr (.inr a0), .inl a3, .inl a1, .inl (m1 (m1 a0 84) (w32 ((w32 (7 * (w32 ((w32 (9 * a1)) + a3)))) + 2))), .inl (m1 (m1 a0 84) (w32 ((w32 (7 * (w32 ((w32 (9 * a1)) + a3)))) + 3))), .inl (m1 (m1 a0 84) (w32 ((w32 (7 * (w32 ((w32 (9 * a1)) + a3)))) + 4))), .inl (m1 (m1 a0 84) (w32 ((w32 (7 * (w32 ((w32 (9 * a1)) + a3)))) + 5))), .inl (m1 (m1 a0 84) (w32 ((w32 (7 * (w32 ((w32 (9 * a1)) + a3)))) + 6)))] m1 h (zk0 fun m2 h2 =>
        kd h2 a0 = 13 ∧ zcal WP d n_Mo_asks [.inr (.inr a0), .inl (m (m a0 97) a2)] m2 h2 (zk0 fun m3 h3 =>
        kd h3 a0 = 13 ∧ zcal WP d n_Mo_first [.inr (.inr a0), .inl 0] m3 h3 (zk1 fun r4 m4 h4 =>
        (r4 ≠ ((-1)) →
          q_Mo_prices_17 d a0 a1 a2 (w32 (a3 + 1)) m4 h4 Q) ∧
        (¬ (r4 ≠ ((-1))) →
          kd h4 a0 = 13 ∧ kd h4 a0 = 13 ∧ zcal WP d n_Mo_tells [.inr (.inr a0), .inl 4, .inl 9999] m4 h4 (zk1 fun r5 m5 h5 =>
          kd h5 (m4 a0 96) = 101 ∧ 0 < (m4 a0 96) ∧ (0 : Int) ≤ (w32 ((w32 (9 * (m (m a0 97) a2))) + a3)) ∧ (w32 ((w32 (9 * (m (m a0 97) a2))) + a3)) < ln h5 (m4 a0 96) ∧ ∀ m6, m6 = zwr m5 (m4 a0 96) (w32 ((w32 (9 * (m (m a0 97) a2))) + a3)) r5 →
          q_Mo_prices_17 d a0 a1 a2 (w32 (a3 + 1)) m6 h5 Q)))))) ∧
      (¬ ((m1 (m1 a0 84) (w32 (7 * (w32 ((w32 (9 * a1)) + a3))))) = (m1 (m1 a0 53) (m (m a0 97) a2))) →
        q_Mo_prices_17 d a0 a1 a2 (w32 (a3 + 1)) m1 h Q)))) : q_Mo_prices_17 d a0 a1 a2 a3 m h Q := zvc_ok zc_Mo_prices zm_Mo_prices 114 (fun _ => rfl) H
theorem e_Mo_prices (d : Nat) (a0 a1 : Int) (m : zM) (h : zH) (Q : zQ) (H : q_Mo_prices_0 d a0 a1 m h Q) : zcal WP (d + 1) n_Mo_prices [.inr (.inr a0), .inl a1] m h Q := zcal_mk rfl H
def zm_Mo_best : Nat → Option (List Bool) := fun pc => bif Nat.beq pc 53 then some [true, true, true, false, true, false, false, false, false, false] else (bif Nat.beq pc 127 then some [true, false, false, false, true, false, false, false, false, false] else (bif Nat.beq pc 166 then some [true, false, false, false, true, false, false, false, false, false] else (bif Nat.beq pc 174 then some [true, false, false, false, true, true, false, false, false, false] else (bif Nat.beq pc 190 then some [true, false, false, false, true, true, true, true, false, false] else (bif Nat.beq pc 348 then some [true, false, false, false, true, true, false, false, false, false] else (bif Nat.beq pc 360 then some [true, false, false, false, true, true, true, false, false, false] else (bif Nat.beq pc 515 then some [true, false, false, false, true, true, false, false, false, false] else (none))))))))
abbrev q_Mo_best_0 (d : Nat) (a0 a1 a2 a3 : Int) (m : zM) (h : zH) (Q : zQ) : Prop := WP d n_Mo_best 0 [some (.inr (.inr a0)), some (.inl a1), some (.inl a2), some (.inl a3), none, none, none, none, none, none] [] m h Q
abbrev q_Mo_best_53 (d : Nat) (a0 a1 a2 a4 : Int) (m : zM) (h : zH) (Q : zQ) : Prop := WP d n_Mo_best 53 [some (.inr (.inr a0)), some (.inl a1), some (.inl a2), none, some (.inl a4), none, none, none, none, none] [] m h Q
abbrev q_Mo_best_127 (d : Nat) (a0 a4 : Int) (m : zM) (h : zH) (Q : zQ) : Prop := WP d n_Mo_best 127 [some (.inr (.inr a0)), none, none, none, some (.inl a4), none, none, none, none, none] [] m h Q
abbrev q_Mo_best_166 (d : Nat) (a0 a4 : Int) (m : zM) (h : zH) (Q : zQ) : Prop := WP d n_Mo_best 166 [some (.inr (.inr a0)), none, none, none, some (.inl a4), none, none, none, none, none] [] m h Q
abbrev q_Mo_best_174 (d : Nat) (a0 a4 a5 : Int) (m : zM) (h : zH) (Q : zQ) : Prop := WP d n_Mo_best 174 [some (.inr (.inr a0)), none, none, none, some (.inl a4), some (.inl a5), none, none, none, none] [] m h Q
abbrev q_Mo_best_190 (d : Nat) (a0 a4 a5 a6 a7 : Int) (m : zM) (h : zH) (Q : zQ) : Prop := WP d n_Mo_best 190 [some (.inr (.inr a0)), none, none, none, some (.inl a4), some (.inl a5), some (.inl a6), some (.inl a7), none, none] [] m h Q
abbrev q_Mo_best_348 (d : Nat) (a0 a4 a5 : Int) (m : zM) (h : zH) (Q : zQ) : Prop := WP d n_Mo_best 348 [some (.inr (.inr a0)), none, none, none, some (.inl a4), some (.inl a5), none, none, none, none] [] m h Q
abbrev q_Mo_best_360 (d : Nat) (a0 a4 a5 a6 : Int) (m : zM) (h : zH) (Q : zQ) : Prop := WP d n_Mo_best 360 [some (.inr (.inr a0)), none, none, none, some (.inl a4), some (.inl a5), some (.inl a6), none, none, none] [] m h Q
abbrev q_Mo_best_515 (d : Nat) (a0 a4 a5 : Int) (m : zM) (h : zH) (Q : zQ) : Prop := WP d n_Mo_best 515 [some (.inr (.inr a0)), none, none, none, some (.inl a4), some (.inl a5), none, none, none, none] [] m h Q
set_option maxRecDepth 100000 in
set_option maxHeartbeats 8000000 in
theorem s_Mo_best_0 (d : Nat) (a0 a1 a2 a3 : Int) (m : zM) (h : zH) (Q : zQ) (H :
  zcal WP d n_Mo_isDay [.inl a1] m h (zk1 fun r1 m1 h1 =>
  (r1 = 0 →
    Q (some (.inl ((-1)))) m1 h1) ∧
  (¬ (r1 = 0) →
    (a2 < 0 →
      Q (some (.inl ((-1)))) m1 h1) ∧
    (¬ (a2 < 0) →
      kd h1 a0 = 13 ∧ ((zshl 1 (m1 a0 52)) ≤ a2 →
        Q (some (.inl ((-1)))) m1 h1) ∧
      (¬ ((zshl 1 (m1 a0 52)) ≤ a2) →
        zcal WP d n_Mo_bits [.inl a2] m1 h1 (zk1 fun r2 m2 h2 =>
        ((8 : Int) < r2 →
          Q (some (.inl ((-1)))) m2 h2) ∧
        (¬ ((8 : Int) < r2) →
          kd h2 a0 = 13 ∧ zcal WP d n_Mo_isKnown [.inr (.inr a0), .inl a3] m2 h2 (zk1 fun r3 m3 h3 =>
          (r3 ≠ 0 →
            kd h3 a0 = 13 ∧ zcal WP d n_Mo_goes [.inr (.inr a0), .inl a3] m3 h3 (zk0 fun m4 h4 =>
            kd h4 a0 = 13 ∧ 0 < a0 ∧ ∀ m5, m5 = zwr m4 a0 98 0 →
            q_Mo_best_53 d a0 a1 a2 0 m5 h4 Q)) ∧
          (¬ (r3 ≠ 0) →
            Q (some (.inl ((-1)))) m3 h3))))))))) : q_Mo_best_0 d a0 a1 a2 a3 m h Q := zvc_ok zc_Mo_best zm_Mo_best 297 (fun _ => rfl) H
set_option maxRecDepth 100000 in
set_option maxHeartbeats 8000000 in
theorem s_Mo_best_53 (d : Nat) (a0 a1 a2 a4 : Int) (m : zM) (h : zH) (Q : zQ) (H :
  kd h a0 = 13 ∧ ((m a0 52) ≤ a4 →
    kd h a0 = 13 ∧ zcal WP d n_Mo_prices [.inr (.inr a0), .inl a1] m h (zk0 fun m1 h1 =>
    ((1 : Int) = 0 ∨ (1 : Int) = 1) ∧ kd h1 a0 = 13 ∧ 0 < a0 ∧ ∀ m2, m2 = zwr m1 a0 100 1 →
    kd h1 a0 = 13 ∧ 0 < a0 ∧ ∀ m3, m3 = zwr m2 a0 101 0 →
    q_Mo_best_127 d a0 0 m3 h1 Q)) ∧
  (¬ ((m a0 52) ≤ a4) →
    kd h a0 = 13 ∧ kd h (m a0 102) = 101 ∧ 0 < (m a0 102) ∧ (0 : Int) ≤ a4 ∧ a4 < ln h (m a0 102) ∧ ∀ m1, m1 = zwr m (m a0 102) a4 ((-1)) →
    ((zand (zshr a2 a4) 1) ≠ 0 →
      kd h a0 = 13 ∧ kd h a0 = 13 ∧ kd h (m1 a0 97) = 101 ∧ 0 < (m1 a0 97) ∧ (0 : Int) ≤ (m1 a0 98) ∧ (m1 a0 98) < ln h (m1 a0 97) ∧ ∀ m2, m2 = zwr m1 (m1 a0 97) (m1 a0 98) a4 →
      kd h a0 = 13 ∧ kd h a0 = 13 ∧ 0 < a0 ∧ ∀ m3, m3 = zwr m2 a0 98 (w32 ((m2 a0 98) + 1)) →
      q_Mo_best_53 d a0 a1 a2 (w32 (a4 + 1)) m3 h Q) ∧
    (¬ ((zand (zshr a2 a4) 1) ≠ 0) →
      q_Mo_best_53 d a0 a1 a2 (w32 (a4 + 1)) m1 h Q))) : q_Mo_best_53 d a0 a1 a2 a4 m h Q := zvc_ok zc_Mo_best zm_Mo_best 297 (fun _ => rfl) H
set_option maxRecDepth 100000 in
set_option maxHeartbeats 8000000 in
theorem s_Mo_best_127 (d : Nat) (a0 a4 : Int) (m : zM) (h : zH) (Q : zQ) (H :
  ((512 : Int) ≤ a4 →
    kd h a0 = 13 ∧ q_Mo_best_166 d a0 (w32 ((m a0 98) - 1)) m h Q) ∧
  (¬ ((512 : Int) ≤ a4) →
    kd h a0 = 13 ∧ kd h a0 = 13 ∧ kd h (m a0 99) = 101 ∧ 0 < (m a0 99) ∧ (0 : Int) ≤ (w32 ((w32 (512 * (m a0 98))) + a4)) ∧ (w32 ((w32 (512 * (m a0 98))) + a4)) < ln h (m a0 99) ∧ ∀ m1, m1 = zwr m (m a0 99) (w32 ((w32 (512 * (m a0 98))) + a4)) 0 →
    q_Mo_best_127 d a0 (w32 (a4 + 1)) m1 h Q)) : q_Mo_best_127 d a0 a4 m h Q := zvc_ok zc_Mo_best zm_Mo_best 297 (fun _ => rfl) H
set_option maxRecDepth 100000 in
set_option maxHeartbeats 8000000 in
theorem s_Mo_best_166 (d : Nat) (a0 a4 : Int) (m : zM) (h : zH) (Q : zQ) (H :
  (a4 < 0 →
    kd h a0 = 13 ∧ kd h (m a0 99) = 101 ∧ (0 : Int) ≤ 0 ∧ 0 < ln h (m a0 99) ∧ ((m (m a0 99) 0) ≠ 1000000 →
      q_Mo_best_348 d a0 0 0 m h Q) ∧
    (¬ ((m (m a0 99) 0) ≠ 1000000) →
      kd h a0 = 13 ∧ zcal WP d n_Mo_lacks [.inr (.inr a0)] m h (zk0 fun m1 h1 =>
      Q (some (.inl ((-2)))) m1 h1))) ∧
  (¬ (a4 < 0) →
    q_Mo_best_174 d a0 a4 0 m h Q)) : q_Mo_best_166 d a0 a4 m h Q := zvc_ok zc_Mo_best zm_Mo_best 297 (fun _ => rfl) H
set_option maxRecDepth 100000 in
set_option maxHeartbeats 8000000 in
theorem s_Mo_best_174 (d : Nat) (a0 a4 a5 : Int) (m : zM) (h : zH) (Q : zQ) (H :
  ((512 : Int) ≤ a5 →
    q_Mo_best_166 d a0 (w32 (a4 + (-1))) m h Q) ∧
  (¬ ((512 : Int) ≤ a5) →
    q_Mo_best_190 d a0 a4 a5 1000000 0 m h Q)) : q_Mo_best_174 d a0 a4 a5 m h Q := zvc_ok zc_Mo_best zm_Mo_best 297 (fun _ => rfl) H
set_option maxRecDepth 100000 in
set_option maxHeartbeats 8000000 in
theorem s_Mo_best_190 (d : Nat) (a0 a4 a5 a6 a7 : Int) (m : zM) (h : zH) (Q : zQ) (H :
  kd h a0 = 13 ∧ ((m a0 47) ≤ a7 →
    kd h a0 = 13 ∧ kd h (m a0 99) = 101 ∧ 0 < (m a0 99) ∧ (0 : Int) ≤ (w32 ((w32 (512 * a4)) + a5)) ∧ (w32 ((w32 (512 * a4)) + a5)) < ln h (m a0 99) ∧ ∀ m1, m1 = zwr m (m a0 99) (w32 ((w32 (512 * a4)) + a5)) a6 →
    q_Mo_best_174 d a0 a4 (w32 (a5 + 1)) m1 h Q) ∧
  (¬ ((m a0 47) ≤ a7) →
    kd h a0 = 13 ∧ kd h a0 = 13 ∧ kd h (m a0 97) = 101 ∧ (0 : Int) ≤ a4 ∧ a4 < ln h (m a0 97) ∧ kd h (m a0 96) = 101 ∧ (0 : Int) ≤ (w32 ((w32 (9 * (m (m a0 97) a4))) + a7)) ∧ (w32 ((w32 (9 * (m (m a0 97) a4))) + a7)) < ln h (m a0 96) ∧ ((zand (zshr a5 a7) 1) = 1 →
      q_Mo_best_190 d a0 a4 a5 a6 (w32 (a7 + 1)) m h Q) ∧
    (¬ ((zand (zshr a5 a7) 1) = 1) →
      ((m (m a0 96) (w32 ((w32 (9 * (m (m a0 97) a4))) + a7))) ≠ 1000000 →
        kd h a0 = 13 ∧ kd h (m a0 99) = 101 ∧ (0 : Int) ≤ (w32 ((w32 (512 * (w32 (a4 + 1)))) + (zor a5 (zshl 1 a7)))) ∧ (w32 ((w32 (512 * (w32 (a4 + 1)))) + (zor a5 (zshl 1 a7)))) < ln h (m a0 99) ∧ ((m (m a0 99) (w32 ((w32 (512 * (w32 (a4 + 1)))) + (zor a5 (zshl 1 a7))))) = 1000000 →
          q_Mo_best_190 d a0 a4 a5 a6 (w32 (a7 + 1)) m h Q) ∧
        (¬ ((m (m a0 99) (w32 ((w32 (512 * (w32 (a4 + 1)))) + (zor a5 (zshl 1 a7))))) = 1000000) →
          (a6 ≤ (w32 ((m (m a0 96) (w32 ((w32 (9 * (m (m a0 97) a4))) + a7))) + (m (m a0 99) (w32 ((w32 (512 * (w32 (a4 + 1)))) + (zor a5 (zshl 1 a7))))))) →
            q_Mo_best_190 d a0 a4 a5 a6 (w32 (a7 + 1)) m h Q) ∧
          (¬ (a6 ≤ (w32 ((m (m a0 96) (w32 ((w32 (9 * (m (m a0 97) a4))) + a7))) + (m (m a0 99) (w32 ((w32 (512 * (w32 (a4 + 1)))) + (zor a5 (zshl 1 a7)))))))) →
            q_Mo_best_190 d a0 a4 a5 (w32 ((m (m a0 96) (w32 ((w32 (9 * (m (m a0 97) a4))) + a7))) + (m (m a0 99) (w32 ((w32 (512 * (w32 (a4 + 1)))) + (zor a5 (zshl 1 a7))))))) (w32 (a7 + 1)) m h Q))) ∧
      (¬ ((m (m a0 96) (w32 ((w32 (9 * (m (m a0 97) a4))) + a7))) ≠ 1000000) →
        q_Mo_best_190 d a0 a4 a5 a6 (w32 (a7 + 1)) m h Q)))) : q_Mo_best_190 d a0 a4 a5 a6 a7 m h Q := zvc_ok zc_Mo_best zm_Mo_best 297 (fun _ => rfl) H
set_option maxRecDepth 100000 in
set_option maxHeartbeats 8000000 in
theorem s_Mo_best_348 (d : Nat) (a0 a4 a5 : Int) (m : zM) (h : zH) (Q : zQ) (H :
  kd h a0 = 13 ∧ ((m a0 98) ≤ a5 →
    kd h a0 = 13 ∧ kd h (m a0 99) = 101 ∧ (0 : Int) ≤ 0 ∧ 0 < ln h (m a0 99) ∧ Q (some (.inl (m (m a0 99) 0))) m h) ∧
  (¬ ((m a0 98) ≤ a5) →
    q_Mo_best_360 d a0 a4 a5 0 m h Q)) : q_Mo_best_348 d a0 a4 a5 m h Q := zvc_ok zc_Mo_best zm_Mo_best 297 (fun _ => rfl) H
set_option maxRecDepth 100000 in
set_option maxHeartbeats 8000000 in
theorem s_Mo_best_360 (d : Nat) (a0 a4 a5 a6 : Int) (m : zM) (h : zH) (Q : zQ) (H :
  kd h a0 = 13 ∧ ((m a0 47) ≤ a6 →
    q_Mo_best_515 d a0 a4 a5 m h Q) ∧
  (¬ ((m a0 47) ≤ a6) →
    kd h a0 = 13 ∧ kd h a0 = 13 ∧ kd h (m a0 97) = 101 ∧ (0 : Int) ≤ a5 ∧ a5 < ln h (m a0 97) ∧ kd h (m a0 102) = 101 ∧ (0 : Int) ≤ (m (m a0 97) a5) ∧ (m (m a0 97) a5) < ln h (m a0 102) ∧ ((m (m a0 102) (m (m a0 97) a5)) ≠ ((-1)) →
      q_Mo_best_515 d a0 a4 a5 m h Q) ∧
    (¬ ((m (m a0 102) (m (m a0 97) a5)) ≠ ((-1))) →
      kd h a0 = 13 ∧ kd h a0 = 13 ∧ kd h (m a0 97) = 101 ∧ (0 : Int) ≤ a5 ∧ a5 < ln h (m a0 97) ∧ kd h (m a0 96) = 101 ∧ (0 : Int) ≤ (w32 ((w32 (9 * (m (m a0 97) a5))) + a6)) ∧ (w32 ((w32 (9 * (m (m a0 97) a5))) + a6)) < ln h (m a0 96) ∧ ((zand (zshr a4 a6) 1) = 1 →
        q_Mo_best_360 d a0 a4 a5 (w32 (a6 + 1)) m h Q) ∧
      (¬ ((zand (zshr a4 a6) 1) = 1) →
        ((m (m a0 96) (w32 ((w32 (9 * (m (m a0 97) a5))) + a6))) = 1000000 →
          q_Mo_best_360 d a0 a4 a5 (w32 (a6 + 1)) m h Q) ∧
        (¬ ((m (m a0 96) (w32 ((w32 (9 * (m (m a0 97) a5))) + a6))) = 1000000) →
          kd h a0 = 13 ∧ kd h (m a0 99) = 101 ∧ (0 : Int) ≤ (w32 ((w32 (512 * (w32 (a5 + 1)))) + (zor a4 (zshl 1 a6)))) ∧ (w32 ((w32 (512 * (w32 (a5 + 1)))) + (zor a4 (zshl 1 a6)))) < ln h (m a0 99) ∧ ((m (m a0 99) (w32 ((w32 (512 * (w32 (a5 + 1)))) + (zor a4 (zshl 1 a6))))) = 1000000 →
            q_Mo_best_360 d a0 a4 a5 (w32 (a6 + 1)) m h Q) ∧
          (¬ ((m (m a0 99) (w32 ((w32 (512 * (w32 (a5 + 1)))) + (zor a4 (zshl 1 a6))))) = 1000000) →
            kd h a0 = 13 ∧ kd h (m a0 99) = 101 ∧ (0 : Int) ≤ (w32 ((w32 (512 * (w32 (a5 + 1)))) + (zor a4 (zshl 1 a6)))) ∧ (w32 ((w32 (512 * (w32 (a5 + 1)))) + (zor a4 (zshl 1 a6)))) < ln h (m a0 99) ∧ kd h a0 = 13 ∧ kd h (m a0 99) = 101 ∧ (0 : Int) ≤ (w32 ((w32 (512 * a5)) + a4)) ∧ (w32 ((w32 (512 * a5)) + a4)) < ln h (m a0 99) ∧ ((w32 ((m (m a0 96) (w32 ((w32 (9 * (m (m a0 97) a5))) + a6))) + (m (m a0 99) (w32 ((w32 (512 * (w32 (a5 + 1)))) + (zor a4 (zshl 1 a6))))))) = (m (m a0 99) (w32 ((w32 (512 * a5)) + a4))) →
              kd h a0 = 13 ∧ kd h a0 = 13 ∧ kd h (m a0 97) = 101 ∧ (0 : Int) ≤ a5 ∧ a5 < ln h (m a0 97) ∧ kd h (m a0 102) = 101 ∧ 0 < (m a0 102) ∧ (0 : Int) ≤ (m (m a0 97) a5) ∧ (m (m a0 97) a5) < ln h (m a0 102) ∧ ∀ m1, m1 = zwr m (m a0 102) (m (m a0 97) a5) a6 →
              q_Mo_best_360 d a0 a4 a5 (w32 (a6 + 1)) m1 h Q) ∧
            (¬ ((w32 ((m (m a0 96) (w32 ((w32 (9 * (m (m a0 97) a5))) + a6))) + (m (m a0 99) (w32 ((w32 (512 * (w32 (a5 + 1)))) + (zor a4 (zshl 1 a6))))))) = (m (m a0 99) (w32 ((w32 (512 * a5)) + a4)))) →
              q_Mo_best_360 d a0 a4 a5 (w32 (a6 + 1)) m h Q))))))) : q_Mo_best_360 d a0 a4 a5 a6 m h Q := zvc_ok zc_Mo_best zm_Mo_best 297 (fun _ => rfl) H
set_option maxRecDepth 100000 in
set_option maxHeartbeats 8000000 in
theorem s_Mo_best_515 (d : Nat) (a0 a4 a5 : Int) (m : zM) (h : zH) (Q : zQ) (H :
  kd h a0 = 13 ∧ kd h a0 = 13 ∧ kd h (m a0 97) = 101 ∧ (0 : Int) ≤ a5 ∧ a5 < ln h (m a0 97) ∧ kd h (m a0 102) = 101 ∧ (0 : Int) ≤ (m (m a0 97) a5) ∧ (m (m a0 97) a5) < ln h (m a0 102) ∧ q_Mo_best_348 d a0 (zor a4 (zshl 1 (m (m a0 102) (m (m a0 97) a5)))) (w32 (a5 + 1)) m h Q) : q_Mo_best_515 d a0 a4 a5 m h Q := zvc_ok zc_Mo_best zm_Mo_best 297 (fun _ => rfl) H
theorem e_Mo_best (d : Nat) (a0 a1 a2 a3 : Int) (m : zM) (h : zH) (Q : zQ) (H : q_Mo_best_0 d a0 a1 a2 a3 m h Q) : zcal WP (d + 1) n_Mo_best [.inr (.inr a0), .inl a1, .inl a2, .inl a3] m h Q := zcal_mk rfl H
def zm_Mo_lacks : Nat → Option (List Bool) := fun pc => bif Nat.beq pc 4 then some [true, true, true, false, false, false, false] else (bif Nat.beq pc 22 then some [true, true, true, true, true, true, false] else (bif Nat.beq pc 60 then some [true, true, true, true, true, true, true] else (none)))
abbrev q_Mo_lacks_0 (d : Nat) (a0 : Int) (m : zM) (h : zH) (Q : zQ) : Prop := WP d n_Mo_lacks 0 [some (.inr (.inr a0)), none, none, none, none, none, none] [] m h Q
abbrev q_Mo_lacks_4 (d : Nat) (a0 a1 a2 : Int) (m : zM) (h : zH) (Q : zQ) : Prop := WP d n_Mo_lacks 4 [some (.inr (.inr a0)), some (.inl a1), some (.inl a2), none, none, none, none] [] m h Q
abbrev q_Mo_lacks_22 (d : Nat) (a0 a1 a2 a3 a4 a5 : Int) (m : zM) (h : zH) (Q : zQ) : Prop := WP d n_Mo_lacks 22 [some (.inr (.inr a0)), some (.inl a1), some (.inl a2), some (.inl a3), some (.inl a4), some (.inl a5), none] [] m h Q
abbrev q_Mo_lacks_60 (d : Nat) (a0 a1 a2 a3 a4 a5 a6 : Int) (m : zM) (h : zH) (Q : zQ) : Prop := WP d n_Mo_lacks 60 [some (.inr (.inr a0)), some (.inl a1), some (.inl a2), some (.inl a3), some (.inl a4), some (.inl a5), some (.inl a6)] [] m h Q
set_option maxRecDepth 100000 in
set_option maxHeartbeats 8000000 in
theorem s_Mo_lacks_0 (d : Nat) (a0 : Int) (m : zM) (h : zH) (Q : zQ) (H :
  q_Mo_lacks_4 d a0 0 1 m h Q) : q_Mo_lacks_0 d a0 m h Q := zvc_ok zc_Mo_lacks zm_Mo_lacks 104 (fun _ => rfl) H
set_option maxRecDepth 100000 in
set_option maxHeartbeats 8000000 in
theorem s_Mo_lacks_4 (d : Nat) (a0 a1 a2 : Int) (m : zM) (h : zH) (Q : zQ) (H :
  kd h a0 = 13 ∧ ((zshl 1 (m a0 98)) ≤ a2 →
    kd h a0 = 13 ∧ 0 < a0 ∧ ∀ m1, m1 = zwr m a0 101 a1 →
    Q none m1 h) ∧
  (¬ ((zshl 1 (m a0 98)) ≤ a2) →
    q_Mo_lacks_22 d a0 a1 a2 0 0 0 m h Q)) : q_Mo_lacks_4 d a0 a1 a2 m h Q := zvc_ok zc_Mo_lacks zm_Mo_lacks 104 (fun _ => rfl) H
set_option maxRecDepth 100000 in
set_option maxHeartbeats 8000000 in
theorem s_Mo_lacks_22 (d : Nat) (a0 a1 a2 a3 a4 a5 : Int) (m : zM) (h : zH) (Q : zQ) (H :
  kd h a0 = 13 ∧ ((m a0 98) ≤ a5 →
    zcal WP d n_Mo_bits [.inl a3] m h (zk1 fun r1 m1 h1 =>
    zcal WP d n_Mo_bits [.inl a2] m1 h1 (zk1 fun r2 m2 h2 =>
    (r1 < r2 →
      (a1 = 0 →
        q_Mo_lacks_4 d a0 a4 (w32 (a2 + 1)) m2 h2 Q) ∧
      (¬ (a1 = 0) →
        zcal WP d n_Mo_bits [.inl a4] m2 h2 (zk1 fun r3 m3 h3 =>
        zcal WP d n_Mo_bits [.inl a1] m3 h3 (zk1 fun r4 m4 h4 =>
        (r4 < r3 →
          q_Mo_lacks_4 d a0 a1 (w32 (a2 + 1)) m4 h4 Q) ∧
        (¬ (r4 < r3) →
          zcal WP d n_Mo_bits [.inl a4] m4 h4 (zk1 fun r5 m5 h5 =>
          zcal WP d n_Mo_bits [.inl a1] m5 h5 (zk1 fun r6 m6 h6 =>
          (r5 ≠ r6 →
            q_Mo_lacks_4 d a0 a4 (w32 (a2 + 1)) m6 h6 Q) ∧
          (¬ (r5 ≠ r6) →
            ((zand (zand a4 (zxor a4 a1)) (w32 (-(zxor a4 a1)))) ≠ 0 →
              q_Mo_lacks_4 d a0 a4 (w32 (a2 + 1)) m6 h6 Q) ∧
            (¬ ((zand (zand a4 (zxor a4 a1)) (w32 (-(zxor a4 a1)))) ≠ 0) →
              q_Mo_lacks_4 d a0 a1 (w32 (a2 + 1)) m6 h6 Q))))))))) ∧
    (¬ (r1 < r2) →
      q_Mo_lacks_4 d a0 a1 (w32 (a2 + 1)) m2 h2 Q)))) ∧
  (¬ ((m a0 98) ≤ a5) →
    ((zand (zshr a2 a5) 1) ≠ 0 →
      kd h a0 = 13 ∧ kd h (m a0 97) = 101 ∧ (0 : Int) ≤ a5 ∧ a5 < ln h (m a0 97) ∧ q_Mo_lacks_60 d a0 a1 a2 a3 (zor a4 (zshl 1 (m (m a0 97) a5))) a5 0 m h Q) ∧
    (¬ ((zand (zshr a2 a5) 1) ≠ 0) →
      q_Mo_lacks_22 d a0 a1 a2 a3 a4 (w32 (a5 + 1)) m h Q))) : q_Mo_lacks_22 d a0 a1 a2 a3 a4 a5 m h Q := zvc_ok zc_Mo_lacks zm_Mo_lacks 104 (fun _ => rfl) H
set_option maxRecDepth 100000 in
set_option maxHeartbeats 8000000 in
theorem s_Mo_lacks_60 (d : Nat) (a0 a1 a2 a3 a4 a5 a6 : Int) (m : zM) (h : zH) (Q : zQ) (H :
  kd h a0 = 13 ∧ ((m a0 47) ≤ a6 →
    q_Mo_lacks_22 d a0 a1 a2 a3 a4 (w32 (a5 + 1)) m h Q) ∧
  (¬ ((m a0 47) ≤ a6) →
    kd h a0 = 13 ∧ kd h a0 = 13 ∧ kd h (m a0 97) = 101 ∧ (0 : Int) ≤ a5 ∧ a5 < ln h (m a0 97) ∧ kd h (m a0 96) = 101 ∧ (0 : Int) ≤ (w32 ((w32 (9 * (m (m a0 97) a5))) + a6)) ∧ (w32 ((w32 (9 * (m (m a0 97) a5))) + a6)) < ln h (m a0 96) ∧ ((m (m a0 96) (w32 ((w32 (9 * (m (m a0 97) a5))) + a6))) = 1000000 →
      q_Mo_lacks_60 d a0 a1 a2 a3 a4 a5 (w32 (a6 + 1)) m h Q) ∧
    (¬ ((m (m a0 96) (w32 ((w32 (9 * (m (m a0 97) a5))) + a6))) = 1000000) →
      q_Mo_lacks_60 d a0 a1 a2 (zor a3 (zshl 1 a6)) a4 a5 (w32 (a6 + 1)) m h Q))) : q_Mo_lacks_60 d a0 a1 a2 a3 a4 a5 a6 m h Q := zvc_ok zc_Mo_lacks zm_Mo_lacks 104 (fun _ => rfl) H
theorem e_Mo_lacks (d : Nat) (a0 : Int) (m : zM) (h : zH) (Q : zQ) (H : q_Mo_lacks_0 d a0 m h Q) : zcal WP (d + 1) n_Mo_lacks [.inr (.inr a0)] m h Q := zcal_mk rfl H
def zm_Mo_given : Nat → Option (List Bool) := fun pc => none
abbrev q_Mo_given_0 (d : Nat) (a0 a1 : Int) (m : zM) (h : zH) (Q : zQ) : Prop := WP d n_Mo_given 0 [some (.inr (.inr a0)), some (.inl a1)] [] m h Q
set_option maxRecDepth 100000 in
set_option maxHeartbeats 8000000 in
theorem s_Mo_given_0 (d : Nat) (a0 a1 : Int) (m : zM) (h : zH) (Q : zQ) (H :
  kd h a0 = 13 ∧ ((m a0 100) = 0 →
    Q (some (.inl ((-1)))) m h) ∧
  (¬ ((m a0 100) = 0) →
    kd h a0 = 13 ∧ zcal WP d n_Mo_isTurn [.inr (.inr a0), .inl a1] m h (zk1 fun r1 m1 h1 =>
    (r1 = 0 →
      Q (some (.inl ((-1)))) m1 h1) ∧
    (¬ (r1 = 0) →
      kd h1 a0 = 13 ∧ kd h1 (m1 a0 102) = 101 ∧ (0 : Int) ≤ a1 ∧ a1 < ln h1 (m1 a0 102) ∧ Q (some (.inl (m1 (m1 a0 102) a1))) m1 h1)))) : q_Mo_given_0 d a0 a1 m h Q := zvc_ok zc_Mo_given zm_Mo_given 15 (fun _ => rfl) H
theorem e_Mo_given (d : Nat) (a0 a1 : Int) (m : zM) (h : zH) (Q : zQ) (H : q_Mo_given_0 d a0 a1 m h Q) : zcal WP (d + 1) n_Mo_given [.inr (.inr a0), .inl a1] m h Q := zcal_mk rfl H
def zm_Mo_lack : Nat → Option (List Bool) := fun pc => none
abbrev q_Mo_lack_0 (d : Nat) (a0 : Int) (m : zM) (h : zH) (Q : zQ) : Prop := WP d n_Mo_lack 0 [some (.inr (.inr a0))] [] m h Q
set_option maxRecDepth 100000 in
set_option maxHeartbeats 8000000 in
theorem s_Mo_lack_0 (d : Nat) (a0 : Int) (m : zM) (h : zH) (Q : zQ) (H :
  kd h a0 = 13 ∧ ((m a0 100) = 0 →
    Q (some (.inl ((-1)))) m h) ∧
  (¬ ((m a0 100) = 0) →
    kd h a0 = 13 ∧ Q (some (.inl (m a0 101))) m h)) : q_Mo_lack_0 d a0 m h Q := zvc_ok zc_Mo_lack zm_Mo_lack 9 (fun _ => rfl) H
theorem e_Mo_lack (d : Nat) (a0 : Int) (m : zM) (h : zH) (Q : zQ) (H : q_Mo_lack_0 d a0 m h Q) : zcal WP (d + 1) n_Mo_lack [.inr (.inr a0)] m h Q := zcal_mk rfl H
def zm_Mo_lines : Nat → Option (List Bool) := fun pc => bif Nat.beq pc 15 then some [true, true, true, false, false] else (bif Nat.beq pc 35 then some [true, true, true, true, true] else (none))
abbrev q_Mo_lines_0 (d : Nat) (a0 a1 a2 : Int) (m : zM) (h : zH) (Q : zQ) : Prop := WP d n_Mo_lines 0 [some (.inr (.inr a0)), some (.inl a1), some (.inl a2), none, none] [] m h Q
abbrev q_Mo_lines_15 (d : Nat) (a0 a1 a2 s0 : Int) (m : zM) (h : zH) (Q : zQ) : Prop := WP d n_Mo_lines 15 [some (.inr (.inr a0)), some (.inl a1), some (.inl a2), none, none] [.inl s0] m h Q
abbrev q_Mo_lines_35 (d : Nat) (a0 a1 a2 a3 a4 : Int) (m : zM) (h : zH) (Q : zQ) : Prop := WP d n_Mo_lines 35 [some (.inr (.inr a0)), some (.inl a1), some (.inl a2), some (.inl a3), some (.inl a4)] [] m h Q
set_option maxRecDepth 100000 in
set_option maxHeartbeats 8000000 in
theorem s_Mo_lines_0 (d : Nat) (a0 a1 a2 : Int) (m : zM) (h : zH) (Q : zQ) (H :
  (a1 = 0 →
    kd h a0 = 13 ∧ q_Mo_lines_15 d a0 a1 a2 (m a0 105) m h Q) ∧
  (¬ (a1 = 0) →
    kd h a0 = 13 ∧ q_Mo_lines_15 d a0 a1 a2 (m a0 106) m h Q)) : q_Mo_lines_0 d a0 a1 a2 m h Q := zvc_ok zc_Mo_lines zm_Mo_lines 69 (fun _ => rfl) H
set_option maxRecDepth 100000 in
set_option maxHeartbeats 8000000 in
theorem s_Mo_lines_15 (d : Nat) (a0 a1 a2 s0 : Int) (m : zM) (h : zH) (Q : zQ) (H :
  (s0 = 7 →
    Q (some (.inl ((-1)))) m h) ∧
  (¬ (s0 = 7) →
    kd h a0 = 13 ∧ zcal WP d n_Mo_isEngine [.inr (.inr a0), .inl a2] m h (zk1 fun r1 m1 h1 =>
    (r1 ≠ 0 →
      q_Mo_lines_35 d a0 a1 a2 s0 0 m1 h1 Q) ∧
    (¬ (r1 ≠ 0) →
      Q (some (.inl ((-1)))) m1 h1)))) : q_Mo_lines_15 d a0 a1 a2 s0 m h Q := zvc_ok zc_Mo_lines zm_Mo_lines 69 (fun _ => rfl) H
set_option maxRecDepth 100000 in
set_option maxHeartbeats 8000000 in
theorem s_Mo_lines_35 (d : Nat) (a0 a1 a2 a3 a4 : Int) (m : zM) (h : zH) (Q : zQ) (H :
  (a3 ≤ a4 →
    (a1 = 0 →
      kd h a0 = 13 ∧ kd h (m a0 103) = 101 ∧ 0 < (m a0 103) ∧ (0 : Int) ≤ a3 ∧ a3 < ln h (m a0 103) ∧ ∀ m1, m1 = zwr m (m a0 103) a3 a2 →
      kd h a0 = 13 ∧ kd h a0 = 13 ∧ 0 < a0 ∧ ∀ m2, m2 = zwr m1 a0 105 (w32 ((m1 a0 105) + 1)) →
      Q (some (.inl (w32 (a3 + 1)))) m2 h) ∧
    (¬ (a1 = 0) →
      kd h a0 = 13 ∧ kd h (m a0 104) = 101 ∧ 0 < (m a0 104) ∧ (0 : Int) ≤ a3 ∧ a3 < ln h (m a0 104) ∧ ∀ m1, m1 = zwr m (m a0 104) a3 a2 →
      kd h a0 = 13 ∧ kd h a0 = 13 ∧ 0 < a0 ∧ ∀ m2, m2 = zwr m1 a0 106 (w32 ((m1 a0 106) + 1)) →
      Q (some (.inl (w32 (a3 + 1)))) m2 h)) ∧
  (¬ (a3 ≤ a4) →
    (a1 = 0 →
      kd h a0 = 13 ∧ kd h (m a0 103) = 101 ∧ (0 : Int) ≤ a4 ∧ a4 < ln h (m a0 103) ∧ ((m (m a0 103) a4) ≠ a2 →
        q_Mo_lines_35 d a0 a1 a2 a3 (w32 (a4 + 1)) m h Q) ∧
      (¬ ((m (m a0 103) a4) ≠ a2) →
        Q (some (.inl ((-1)))) m h)) ∧
    (¬ (a1 = 0) →
      kd h a0 = 13 ∧ kd h (m a0 104) = 101 ∧ (0 : Int) ≤ a4 ∧ a4 < ln h (m a0 104) ∧ ((m (m a0 104) a4) ≠ a2 →
        q_Mo_lines_35 d a0 a1 a2 a3 (w32 (a4 + 1)) m h Q) ∧
      (¬ ((m (m a0 104) a4) ≠ a2) →
        Q (some (.inl ((-1)))) m h)))) : q_Mo_lines_35 d a0 a1 a2 a3 a4 m h Q := zvc_ok zc_Mo_lines zm_Mo_lines 69 (fun _ => rfl) H
theorem e_Mo_lines (d : Nat) (a0 a1 a2 : Int) (m : zM) (h : zH) (Q : zQ) (H : q_Mo_lines_0 d a0 a1 a2 m h Q) : zcal WP (d + 1) n_Mo_lines [.inr (.inr a0), .inl a1, .inl a2] m h Q := zcal_mk rfl H
def zm_Mo_clear : Nat → Option (List Bool) := fun pc => none
abbrev q_Mo_clear_0 (d : Nat) (a0 : Int) (m : zM) (h : zH) (Q : zQ) : Prop := WP d n_Mo_clear 0 [some (.inr (.inr a0))] [] m h Q
set_option maxRecDepth 100000 in
set_option maxHeartbeats 8000000 in
theorem s_Mo_clear_0 (d : Nat) (a0 : Int) (m : zM) (h : zH) (Q : zQ) (H :
  kd h a0 = 13 ∧ 0 < a0 ∧ ∀ m1, m1 = zwr m a0 105 0 →
  kd h a0 = 13 ∧ 0 < a0 ∧ ∀ m2, m2 = zwr m1 a0 106 0 →
  Q none m2 h) : q_Mo_clear_0 d a0 m h Q := zvc_ok zc_Mo_clear zm_Mo_clear 8 (fun _ => rfl) H
theorem e_Mo_clear (d : Nat) (a0 : Int) (m : zM) (h : zH) (Q : zQ) (H : q_Mo_clear_0 d a0 m h Q) : zcal WP (d + 1) n_Mo_clear [.inr (.inr a0)] m h Q := zcal_mk rfl H
def zm_Mo_outAt : Nat → Option (List Bool) := fun pc => bif Nat.beq pc 2 then some [true, true, true] else (none)
abbrev q_Mo_outAt_0 (d : Nat) (a0 a1 : Int) (m : zM) (h : zH) (Q : zQ) : Prop := WP d n_Mo_outAt 0 [some (.inr (.inr a0)), some (.inl a1), none] [] m h Q
abbrev q_Mo_outAt_2 (d : Nat) (a0 a1 a2 : Int) (m : zM) (h : zH) (Q : zQ) : Prop := WP d n_Mo_outAt 2 [some (.inr (.inr a0)), some (.inl a1), some (.inl a2)] [] m h Q
set_option maxRecDepth 100000 in
set_option maxHeartbeats 8000000 in
theorem s_Mo_outAt_0 (d : Nat) (a0 a1 : Int) (m : zM) (h : zH) (Q : zQ) (H :
  q_Mo_outAt_2 d a0 a1 0 m h Q) : q_Mo_outAt_0 d a0 a1 m h Q := zvc_ok zc_Mo_outAt zm_Mo_outAt 19 (fun _ => rfl) H
set_option maxRecDepth 100000 in
set_option maxHeartbeats 8000000 in
theorem s_Mo_outAt_2 (d : Nat) (a0 a1 a2 : Int) (m : zM) (h : zH) (Q : zQ) (H :
  kd h a0 = 13 ∧ ((m a0 106) ≤ a2 →
    Q (some (.inl ((-1)))) m h) ∧
  (¬ ((m a0 106) ≤ a2) →
    kd h a0 = 13 ∧ kd h (m a0 104) = 101 ∧ (0 : Int) ≤ a2 ∧ a2 < ln h (m a0 104) ∧ ((m (m a0 104) a2) ≠ a1 →
      q_Mo_outAt_2 d a0 a1 (w32 (a2 + 1)) m h Q) ∧
    (¬ ((m (m a0 104) a2) ≠ a1) →
      Q (some (.inl a2)) m h))) : q_Mo_outAt_2 d a0 a1 a2 m h Q := zvc_ok zc_Mo_outAt zm_Mo_outAt 19 (fun _ => rfl) H
theorem e_Mo_outAt (d : Nat) (a0 a1 : Int) (m : zM) (h : zH) (Q : zQ) (H : q_Mo_outAt_0 d a0 a1 m h Q) : zcal WP (d + 1) n_Mo_outAt [.inr (.inr a0), .inl a1] m h Q := zcal_mk rfl H
def zm_Mo_roads : Nat → Option (List Bool) := fun pc => bif Nat.beq pc 31 then some [true, true, true, false, false, false, false, false] else (bif Nat.beq pc 65 then some [true, true, true, true, false, false, false, false] else (bif Nat.beq pc 88 then some [true, true, true, true, true, false, false, false] else (bif Nat.beq pc 112 then some [true, true, true, true, true, false, false, false] else (bif Nat.beq pc 130 then some [true, true, true, true, true, true, true, false] else (bif Nat.beq pc 164 then some [true, true, true, true, true, false, true, true] else (bif Nat.beq pc 211 then some [true, true, true, true, true, false, false, true] else (none)))))))
abbrev q_Mo_roads_0 (d : Nat) (a0 a1 : Int) (m : zM) (h : zH) (Q : zQ) : Prop := WP d n_Mo_roads 0 [some (.inr (.inr a0)), some (.inl a1), none, none, none, none, none, none] [] m h Q
abbrev q_Mo_roads_31 (d : Nat) (a0 a1 a2 : Int) (m : zM) (h : zH) (Q : zQ) : Prop := WP d n_Mo_roads 31 [some (.inr (.inr a0)), some (.inl a1), some (.inl a2), none, none, none, none, none] [] m h Q
abbrev q_Mo_roads_65 (d : Nat) (a0 a1 a2 a3 : Int) (m : zM) (h : zH) (Q : zQ) : Prop := WP d n_Mo_roads 65 [some (.inr (.inr a0)), some (.inl a1), some (.inl a2), some (.inl a3), none, none, none, none] [] m h Q
abbrev q_Mo_roads_88 (d : Nat) (a0 a1 a2 a3 a4 : Int) (m : zM) (h : zH) (Q : zQ) : Prop := WP d n_Mo_roads 88 [some (.inr (.inr a0)), some (.inl a1), some (.inl a2), some (.inl a3), some (.inl a4), none, none, none] [] m h Q
abbrev q_Mo_roads_112 (d : Nat) (a0 a1 a2 a3 a4 : Int) (m : zM) (h : zH) (Q : zQ) : Prop := WP d n_Mo_roads 112 [some (.inr (.inr a0)), some (.inl a1), some (.inl a2), some (.inl a3), some (.inl a4), none, none, none] [] m h Q
abbrev q_Mo_roads_130 (d : Nat) (a0 a1 a2 a3 a4 a5 a6 : Int) (m : zM) (h : zH) (Q : zQ) : Prop := WP d n_Mo_roads 130 [some (.inr (.inr a0)), some (.inl a1), some (.inl a2), some (.inl a3), some (.inl a4), some (.inl a5), some (.inl a6), none] [] m h Q
abbrev q_Mo_roads_164 (d : Nat) (a0 a1 a2 a3 a4 a6 a7 : Int) (m : zM) (h : zH) (Q : zQ) : Prop := WP d n_Mo_roads 164 [some (.inr (.inr a0)), some (.inl a1), some (.inl a2), some (.inl a3), some (.inl a4), none, some (.inl a6), some (.inl a7)] [] m h Q
abbrev q_Mo_roads_211 (d : Nat) (a0 a1 a2 a3 a4 a7 : Int) (m : zM) (h : zH) (Q : zQ) : Prop := WP d n_Mo_roads 211 [some (.inr (.inr a0)), some (.inl a1), some (.inl a2), some (.inl a3), some (.inl a4), none, none, some (.inl a7)] [] m h Q
set_option maxRecDepth 100000 in
set_option maxHeartbeats 8000000 in
theorem s_Mo_roads_0 (d : Nat) (a0 a1 : Int) (m : zM) (h : zH) (Q : zQ) (H :
  zcal WP d n_Mo_in [.inl a1, .inl 1, .inl 3] m h (zk1 fun r1 m1 h1 =>
  (r1 = 0 →
    Q (some (.inl ((-1)))) m1 h1) ∧
  (¬ (r1 = 0) →
    kd h1 a0 = 13 ∧ ((m1 a0 105) = 0 →
      Q (some (.inl ((-1)))) m1 h1) ∧
    (¬ ((m1 a0 105) = 0) →
      kd h1 a0 = 13 ∧ kd h1 a0 = 13 ∧ ((m1 a0 105) = (m1 a0 106) →
        q_Mo_roads_31 d a0 a1 0 m1 h1 Q) ∧
      (¬ ((m1 a0 105) = (m1 a0 106)) →
        Q (some (.inl ((-1)))) m1 h1))))) : q_Mo_roads_0 d a0 a1 m h Q := zvc_ok zc_Mo_roads zm_Mo_roads 136 (fun _ => rfl) H
set_option maxRecDepth 100000 in
set_option maxHeartbeats 8000000 in
theorem s_Mo_roads_31 (d : Nat) (a0 a1 a2 : Int) (m : zM) (h : zH) (Q : zQ) (H :
  kd h a0 = 13 ∧ ((m a0 105) ≤ a2 →
    q_Mo_roads_65 d a0 a1 1 0 m h Q) ∧
  (¬ ((m a0 105) ≤ a2) →
    kd h a0 = 13 ∧ kd h (m a0 103) = 101 ∧ (0 : Int) ≤ a2 ∧ a2 < ln h (m a0 103) ∧ kd h a0 = 13 ∧ zcal WP d n_Mo_outAt [.inr (.inr a0), .inl (m (m a0 103) a2)] m h (zk1 fun r1 m1 h1 =>
    (r1 ≠ ((-1)) →
      q_Mo_roads_31 d a0 a1 (w32 (a2 + 1)) m1 h1 Q) ∧
    (¬ (r1 ≠ ((-1))) →
      Q (some (.inl ((-1)))) m1 h1)))) : q_Mo_roads_31 d a0 a1 a2 m h Q := zvc_ok zc_Mo_roads zm_Mo_roads 136 (fun _ => rfl) H
set_option maxRecDepth 100000 in
set_option maxHeartbeats 8000000 in
theorem s_Mo_roads_65 (d : Nat) (a0 a1 a2 a3 : Int) (m : zM) (h : zH) (Q : zQ) (H :
  kd h a0 = 13 ∧ ((m a0 105) ≤ a3 →
    q_Mo_roads_88 d a0 a1 a2 ((-1)) 0 m h Q) ∧
  (¬ ((m a0 105) ≤ a3) →
    q_Mo_roads_65 d a0 a1 (w32 (a2 * a1)) (w32 (a3 + 1)) m h Q)) : q_Mo_roads_65 d a0 a1 a2 a3 m h Q := zvc_ok zc_Mo_roads zm_Mo_roads 136 (fun _ => rfl) H
set_option maxRecDepth 100000 in
set_option maxHeartbeats 8000000 in
theorem s_Mo_roads_88 (d : Nat) (a0 a1 a2 a3 a4 : Int) (m : zM) (h : zH) (Q : zQ) (H :
  ((9 : Int) ≤ a4 →
    q_Mo_roads_112 d a0 a1 a2 a3 0 m h Q) ∧
  (¬ ((9 : Int) ≤ a4) →
    kd h a0 = 13 ∧ kd h (m a0 107) = 101 ∧ 0 < (m a0 107) ∧ (0 : Int) ≤ a4 ∧ a4 < ln h (m a0 107) ∧ ∀ m1, m1 = zwr m (m a0 107) a4 ((-1)) →
    q_Mo_roads_88 d a0 a1 a2 a3 (w32 (a4 + 1)) m1 h Q)) : q_Mo_roads_88 d a0 a1 a2 a3 a4 m h Q := zvc_ok zc_Mo_roads zm_Mo_roads 136 (fun _ => rfl) H
set_option maxRecDepth 100000 in
set_option maxHeartbeats 8000000 in
theorem s_Mo_roads_112 (d : Nat) (a0 a1 a2 a3 a4 : Int) (m : zM) (h : zH) (Q : zQ) (H :
  (a2 ≤ a4 →
    Q (some (.inl a3)) m h) ∧
  (¬ (a2 ≤ a4) →
    kd h a0 = 13 ∧ q_Mo_roads_130 d a0 a1 a2 a3 a4 a4 (w32 ((m a0 105) - 1)) m h Q)) : q_Mo_roads_112 d a0 a1 a2 a3 a4 m h Q := zvc_ok zc_Mo_roads zm_Mo_roads 136 (fun _ => rfl) H
set_option maxRecDepth 100000 in
set_option maxHeartbeats 8000000 in
theorem s_Mo_roads_130 (d : Nat) (a0 a1 a2 a3 a4 a5 a6 : Int) (m : zM) (h : zH) (Q : zQ) (H :
  (a6 < 0 →
    q_Mo_roads_164 d a0 a1 a2 a3 a4 0 0 m h Q) ∧
  (¬ (a6 < 0) →
    kd h a0 = 13 ∧ a1 ≠ 0 ∧ kd h (m a0 108) = 101 ∧ 0 < (m a0 108) ∧ (0 : Int) ≤ a6 ∧ a6 < ln h (m a0 108) ∧ ∀ m1, m1 = zwr m (m a0 108) a6 (zrem a5 a1) →
    a1 ≠ 0 ∧ q_Mo_roads_130 d a0 a1 a2 a3 a4 (zdiv a5 a1) (w32 (a6 + (-1))) m1 h Q)) : q_Mo_roads_130 d a0 a1 a2 a3 a4 a5 a6 m h Q := zvc_ok zc_Mo_roads zm_Mo_roads 136 (fun _ => rfl) H
set_option maxRecDepth 100000 in
set_option maxHeartbeats 8000000 in
theorem s_Mo_roads_164 (d : Nat) (a0 a1 a2 a3 a4 a6 a7 : Int) (m : zM) (h : zH) (Q : zQ) (H :
  kd h a0 = 13 ∧ ((m a0 105) ≤ a7 →
    (a3 = ((-1)) →
      q_Mo_roads_211 d a0 a1 a2 a6 a4 0 m h Q) ∧
    (¬ (a3 = ((-1))) →
      (a6 < a3 →
        q_Mo_roads_211 d a0 a1 a2 a6 a4 0 m h Q) ∧
      (¬ (a6 < a3) →
        q_Mo_roads_112 d a0 a1 a2 a3 (w32 (a4 + 1)) m h Q))) ∧
  (¬ ((m a0 105) ≤ a7) →
    kd h a0 = 13 ∧ zcal WP d n_Mo_isInTheWay [.inr (.inr a0), .inl a7] m h (zk1 fun r1 m1 h1 =>
    (r1 = 0 →
      q_Mo_roads_164 d a0 a1 a2 a3 a4 a6 (w32 (a7 + 1)) m1 h1 Q) ∧
    (¬ (r1 = 0) →
      q_Mo_roads_164 d a0 a1 a2 a3 a4 (w32 (a6 + 1)) (w32 (a7 + 1)) m1 h1 Q)))) : q_Mo_roads_164 d a0 a1 a2 a3 a4 a6 a7 m h Q := zvc_ok zc_Mo_roads zm_Mo_roads 136 (fun _ => rfl) H
set_option maxRecDepth 100000 in
set_option maxHeartbeats 8000000 in
theorem s_Mo_roads_211 (d : Nat) (a0 a1 a2 a3 a4 a7 : Int) (m : zM) (h : zH) (Q : zQ) (H :
  kd h a0 = 13 ∧ ((m a0 105) ≤ a7 →
    q_Mo_roads_112 d a0 a1 a2 a3 (w32 (a4 + 1)) m h Q) ∧
  (¬ ((m a0 105) ≤ a7) →
    kd h a0 = 13 ∧ kd h a0 = 13 ∧ kd h (m a0 103) = 101 ∧ (0 : Int) ≤ a7 ∧ a7 < ln h (m a0 103) ∧ kd h a0 = 13 ∧ kd h (m a0 108) = 101 ∧ (0 : Int) ≤ a7 ∧ a7 < ln h (m a0 108) ∧ kd h (m a0 107) = 101 ∧ 0 < (m a0 107) ∧ (0 : Int) ≤ (m (m a0 103) a7) ∧ (m (m a0 103) a7) < ln h (m a0 107) ∧ ∀ m1, m1 = zwr m (m a0 107) (m (m a0 103) a7) (m (m a0 108) a7) →
    q_Mo_roads_211 d a0 a1 a2 a3 a4 (w32 (a7 + 1)) m1 h Q)) : q_Mo_roads_211 d a0 a1 a2 a3 a4 a7 m h Q := zvc_ok zc_Mo_roads zm_Mo_roads 136 (fun _ => rfl) H
theorem e_Mo_roads (d : Nat) (a0 a1 : Int) (m : zM) (h : zH) (Q : zQ) (H : q_Mo_roads_0 d a0 a1 m h Q) : zcal WP (d + 1) n_Mo_roads [.inr (.inr a0), .inl a1] m h Q := zcal_mk rfl H
def zm_Mo_isInTheWay : Nat → Option (List Bool) := fun pc => bif Nat.beq pc 2 then some [true, true, true] else (none)
abbrev q_Mo_isInTheWay_0 (d : Nat) (a0 a1 : Int) (m : zM) (h : zH) (Q : zQ) : Prop := WP d n_Mo_isInTheWay 0 [some (.inr (.inr a0)), some (.inl a1), none] [] m h Q
abbrev q_Mo_isInTheWay_2 (d : Nat) (a0 a1 a2 : Int) (m : zM) (h : zH) (Q : zQ) : Prop := WP d n_Mo_isInTheWay 2 [some (.inr (.inr a0)), some (.inl a1), some (.inl a2)] [] m h Q
set_option maxRecDepth 100000 in
set_option maxHeartbeats 8000000 in
theorem s_Mo_isInTheWay_0 (d : Nat) (a0 a1 : Int) (m : zM) (h : zH) (Q : zQ) (H :
  q_Mo_isInTheWay_2 d a0 a1 0 m h Q) : q_Mo_isInTheWay_0 d a0 a1 m h Q := zvc_ok zc_Mo_isInTheWay zm_Mo_isInTheWay 34 (fun _ => rfl) H
set_option maxRecDepth 100000 in
set_option maxHeartbeats 8000000 in
theorem s_Mo_isInTheWay_2 (d : Nat) (a0 a1 a2 : Int) (m : zM) (h : zH) (Q : zQ) (H :
  (a1 ≤ a2 →
    ((0 : Int) = 0 ∨ (0 : Int) = 1) ∧ Q (some (.inl (0 : Int))) m h) ∧
  (¬ (a1 ≤ a2) →
    kd h a0 = 13 ∧ kd h (m a0 108) = 101 ∧ (0 : Int) ≤ a2 ∧ a2 < ln h (m a0 108) ∧ kd h a0 = 13 ∧ kd h (m a0 108) = 101 ∧ (0 : Int) ≤ a1 ∧ a1 < ln h (m a0 108) ∧ ((m (m a0 108) a2) ≠ (m (m a0 108) a1) →
      q_Mo_isInTheWay_2 d a0 a1 (w32 (a2 + 1)) m h Q) ∧
    (¬ ((m (m a0 108) a2) ≠ (m (m a0 108) a1)) →
      kd h a0 = 13 ∧ kd h (m a0 103) = 101 ∧ (0 : Int) ≤ a2 ∧ a2 < ln h (m a0 103) ∧ kd h a0 = 13 ∧ zcal WP d n_Mo_outAt [.inr (.inr a0), .inl (m (m a0 103) a2)] m h (zk1 fun r1 m1 h1 =>
      kd h1 a0 = 13 ∧ kd h1 (m1 a0 103) = 101 ∧ (0 : Int) ≤ a1 ∧ a1 < ln h1 (m1 a0 103) ∧ kd h1 a0 = 13 ∧ zcal WP d n_Mo_outAt [.inr (.inr a0), .inl (m1 (m1 a0 103) a1)] m1 h1 (zk1 fun r2 m2 h2 =>
      (r2 ≤ r1 →
        q_Mo_isInTheWay_2 d a0 a1 (w32 (a2 + 1)) m2 h2 Q) ∧
      (¬ (r2 ≤ r1) →
        ((1 : Int) = 0 ∨ (1 : Int) = 1) ∧ Q (some (.inl (1 : Int))) m2 h2)))))) : q_Mo_isInTheWay_2 d a0 a1 a2 m h Q := zvc_ok zc_Mo_isInTheWay zm_Mo_isInTheWay 34 (fun _ => rfl) H
theorem e_Mo_isInTheWay (d : Nat) (a0 a1 : Int) (m : zM) (h : zH) (Q : zQ) (H : q_Mo_isInTheWay_0 d a0 a1 m h Q) : zcal WP (d + 1) n_Mo_isInTheWay [.inr (.inr a0), .inl a1] m h Q := zcal_mk rfl H
def zm_Mo_road : Nat → Option (List Bool) := fun pc => none
abbrev q_Mo_road_0 (d : Nat) (a0 a1 : Int) (m : zM) (h : zH) (Q : zQ) : Prop := WP d n_Mo_road 0 [some (.inr (.inr a0)), some (.inl a1)] [] m h Q
set_option maxRecDepth 100000 in
set_option maxHeartbeats 8000000 in
theorem s_Mo_road_0 (d : Nat) (a0 a1 : Int) (m : zM) (h : zH) (Q : zQ) (H :
  zcal WP d n_Mo_in [.inl a1, .inl 0, .inl 8] m h (zk1 fun r1 m1 h1 =>
  (r1 = 0 →
    Q (some (.inl ((-1)))) m1 h1) ∧
  (¬ (r1 = 0) →
    kd h1 a0 = 13 ∧ kd h1 (m1 a0 107) = 101 ∧ (0 : Int) ≤ a1 ∧ a1 < ln h1 (m1 a0 107) ∧ Q (some (.inl (m1 (m1 a0 107) a1))) m1 h1))) : q_Mo_road_0 d a0 a1 m h Q := zvc_ok zc_Mo_road zm_Mo_road 13 (fun _ => rfl) H
theorem e_Mo_road (d : Nat) (a0 a1 : Int) (m : zM) (h : zH) (Q : zQ) (H : q_Mo_road_0 d a0 a1 m h Q) : zcal WP (d + 1) n_Mo_road [.inr (.inr a0), .inl a1] m h Q := zcal_mk rfl H
def zm_Mo_may : Nat → Option (List Bool) := fun pc => none
abbrev q_Mo_may_0 (d : Nat) (a0 a1 a2 a3 : Int) (m : zM) (h : zH) (Q : zQ) : Prop := WP d n_Mo_may 0 [some (.inr (.inr a0)), some (.inl a1), some (.inl a2), some (.inl a3)] [] m h Q
set_option maxRecDepth 100000 in
set_option maxHeartbeats 8000000 in
theorem s_Mo_may_0 (d : Nat) (a0 a1 a2 a3 : Int) (m : zM) (h : zH) (Q : zQ) (H :
  zcal WP d n_Mo_in [.inl a1, .inl 0, .inl 5] m h (zk1 fun r1 m1 h1 =>
  (r1 = 0 →
    ((0 : Int) = 0 ∨ (0 : Int) = 1) ∧ Q (some (.inl (0 : Int))) m1 h1) ∧
  (¬ (r1 = 0) →
    kd h1 a0 = 13 ∧ zcal WP d n_Mo_isTurn [.inr (.inr a0), .inl a2] m1 h1 (zk1 fun r2 m2 h2 =>
    (r2 ≠ 0 →
      kd h2 a0 = 13 ∧ (a3 = 0 ∨ a3 = 1) ∧ kd h2 (m2 a0 109) = 103 ∧ 0 < (m2 a0 109) ∧ (0 : Int) ≤ (w32 ((w32 (12 * a1)) + a2)) ∧ (w32 ((w32 (12 * a1)) + a2)) < ln h2 (m2 a0 109) ∧ ∀ m3, m3 = zwr m2 (m2 a0 109) (w32 ((w32 (12 * a1)) + a2)) a3 →
      ((1 : Int) = 0 ∨ (1 : Int) = 1) ∧ Q (some (.inl (1 : Int))) m3 h2) ∧
    (¬ (r2 ≠ 0) →
      ((0 : Int) = 0 ∨ (0 : Int) = 1) ∧ Q (some (.inl (0 : Int))) m2 h2))))) : q_Mo_may_0 d a0 a1 a2 a3 m h Q := zvc_ok zc_Mo_may zm_Mo_may 23 (fun _ => rfl) H
theorem e_Mo_may (d : Nat) (a0 a1 a2 a3 : Int) (m : zM) (h : zH) (Q : zQ) (H : q_Mo_may_0 d a0 a1 a2 a3 m h Q) : zcal WP (d + 1) n_Mo_may [.inr (.inr a0), .inl a1, .inl a2, .inl a3] m h Q := zcal_mk rfl H
def zm_Mo_has : Nat → Option (List Bool) := fun pc => bif Nat.beq pc 8 then some [true, true, true, true, true, false, false] else (bif Nat.beq pc 34 then some [true, true, true, true, true, false, false] else (bif Nat.beq pc 60 then some [true, true, true, true, true, true, false] else (bif Nat.beq pc 78 then some [true, true, true, true, true, true, true] else (none))))
abbrev q_Mo_has_0 (d : Nat) (a0 a1 a2 : Int) (m : zM) (h : zH) (Q : zQ) : Prop := WP d n_Mo_has 0 [some (.inr (.inr a0)), some (.inl a1), some (.inl a2), none, none, none, none] [] m h Q
abbrev q_Mo_has_8 (d : Nat) (a0 a1 a2 a3 a4 : Int) (m : zM) (h : zH) (Q : zQ) : Prop := WP d n_Mo_has 8 [some (.inr (.inr a0)), some (.inl a1), some (.inl a2), some (.inr (.inr a3)), some (.inl a4), none, none] [] m h Q
abbrev q_Mo_has_34 (d : Nat) (a0 a1 a2 a3 a4 : Int) (m : zM) (h : zH) (Q : zQ) : Prop := WP d n_Mo_has 34 [some (.inr (.inr a0)), some (.inl a1), some (.inl a2), some (.inr (.inr a3)), some (.inl a4), none, none] [] m h Q
abbrev q_Mo_has_60 (d : Nat) (a0 a1 a2 a3 a4 a5 : Int) (m : zM) (h : zH) (Q : zQ) : Prop := WP d n_Mo_has 60 [some (.inr (.inr a0)), some (.inl a1), some (.inl a2), some (.inr (.inr a3)), some (.inl a4), some (.inl a5), none] [] m h Q
abbrev q_Mo_has_78 (d : Nat) (a0 a1 a2 a3 a4 a5 a6 : Int) (m : zM) (h : zH) (Q : zQ) : Prop := WP d n_Mo_has 78 [some (.inr (.inr a0)), some (.inl a1), some (.inl a2), some (.inr (.inr a3)), some (.inl a4), some (.inl a5), some (.inl a6)] [] m h Q
set_option maxRecDepth 100000 in
set_option maxHeartbeats 8000000 in
theorem s_Mo_has_0 (d : Nat) (a0 a1 a2 : Int) (m : zM) (h : zH) (Q : zQ) (H :
  kd h a0 = 13 ∧ q_Mo_has_8 d a0 a1 a2 (m a0 114) 0 m h Q) : q_Mo_has_0 d a0 a1 a2 m h Q := zvc_ok zc_Mo_has zm_Mo_has 90 (fun _ => rfl) H
set_option maxRecDepth 100000 in
set_option maxHeartbeats 8000000 in
theorem s_Mo_has_8 (d : Nat) (a0 a1 a2 a3 a4 : Int) (m : zM) (h : zH) (Q : zQ) (H :
  ((4096 : Int) ≤ a4 →
    ((1 : Int) = 0 ∨ (1 : Int) = 1) ∧ kd h a3 = 103 ∧ 0 < a3 ∧ (0 : Int) ≤ 0 ∧ 0 < ln h a3 ∧ ∀ m1, m1 = zwr m a3 0 1 →
    q_Mo_has_34 d a0 a1 a2 a3 0 m1 h Q) ∧
  (¬ ((4096 : Int) ≤ a4) →
    ((0 : Int) = 0 ∨ (0 : Int) = 1) ∧ kd h a3 = 103 ∧ 0 < a3 ∧ (0 : Int) ≤ a4 ∧ a4 < ln h a3 ∧ ∀ m1, m1 = zwr m a3 a4 0 →
    q_Mo_has_8 d a0 a1 a2 a3 (w32 (a4 + 1)) m1 h Q)) : q_Mo_has_8 d a0 a1 a2 a3 a4 m h Q := zvc_ok zc_Mo_has zm_Mo_has 90 (fun _ => rfl) H
set_option maxRecDepth 100000 in
set_option maxHeartbeats 8000000 in
theorem s_Mo_has_34 (d : Nat) (a0 a1 a2 a3 a4 : Int) (m : zM) (h : zH) (Q : zQ) (H :
  kd h a0 = 13 ∧ ((m a0 47) ≤ a4 →
    kd h a3 = 103 ∧ (0 : Int) ≤ a2 ∧ a2 < ln h a3 ∧ ((m a3 a2) = 0 ∨ (m a3 a2) = 1) ∧ Q (some (.inl (m a3 a2))) m h) ∧
  (¬ ((m a0 47) ≤ a4) →
    ((zand (zshr a1 a4) 1) ≠ 0 →
      q_Mo_has_60 d a0 a1 a2 a3 a4 4095 m h Q) ∧
    (¬ ((zand (zshr a1 a4) 1) ≠ 0) →
      q_Mo_has_34 d a0 a1 a2 a3 (w32 (a4 + 1)) m h Q))) : q_Mo_has_34 d a0 a1 a2 a3 a4 m h Q := zvc_ok zc_Mo_has zm_Mo_has 90 (fun _ => rfl) H
set_option maxRecDepth 100000 in
set_option maxHeartbeats 8000000 in
theorem s_Mo_has_60 (d : Nat) (a0 a1 a2 a3 a4 a5 : Int) (m : zM) (h : zH) (Q : zQ) (H :
  (a5 < 0 →
    q_Mo_has_34 d a0 a1 a2 a3 (w32 (a4 + 1)) m h Q) ∧
  (¬ (a5 < 0) →
    kd h a3 = 103 ∧ (0 : Int) ≤ a5 ∧ a5 < ln h a3 ∧ ((m a3 a5) ≠ 0 →
      q_Mo_has_78 d a0 a1 a2 a3 a4 a5 0 m h Q) ∧
    (¬ ((m a3 a5) ≠ 0) →
      q_Mo_has_60 d a0 a1 a2 a3 a4 (w32 (a5 + (-1))) m h Q))) : q_Mo_has_60 d a0 a1 a2 a3 a4 a5 m h Q := zvc_ok zc_Mo_has zm_Mo_has 90 (fun _ => rfl) H
set_option maxRecDepth 100000 in
set_option maxHeartbeats 8000000 in
theorem s_Mo_has_78 (d : Nat) (a0 a1 a2 a3 a4 a5 a6 : Int) (m : zM) (h : zH) (Q : zQ) (H :
  kd h a0 = 13 ∧ ((m a0 52) ≤ a6 →
    q_Mo_has_60 d a0 a1 a2 a3 a4 (w32 (a5 + (-1))) m h Q) ∧
  (¬ ((m a0 52) ≤ a6) →
    ((zand (zshr a2 a6) 1) ≠ 1 →
      q_Mo_has_78 d a0 a1 a2 a3 a4 a5 (w32 (a6 + 1)) m h Q) ∧
    (¬ ((zand (zshr a2 a6) 1) ≠ 1) →
      ((zand (zshr a5 a6) 1) ≠ 0 →
        q_Mo_has_78 d a0 a1 a2 a3 a4 a5 (w32 (a6 + 1)) m h Q) ∧
      (¬ ((zand (zshr a5 a6) 1) ≠ 0) →
        kd h a0 = 13 ∧ kd h a0 = 13 ∧ kd h (m a0 48) = 101 ∧ (0 : Int) ≤ a4 ∧ a4 < ln h (m a0 48) ∧ kd h (m a0 109) = 103 ∧ (0 : Int) ≤ (w32 ((w32 (12 * (m (m a0 48) a4))) + a6)) ∧ (w32 ((w32 (12 * (m (m a0 48) a4))) + a6)) < ln h (m a0 109) ∧ ((m (m a0 109) (w32 ((w32 (12 * (m (m a0 48) a4))) + a6))) = 0 →
          q_Mo_has_78 d a0 a1 a2 a3 a4 a5 (w32 (a6 + 1)) m h Q) ∧
        (¬ ((m (m a0 109) (w32 ((w32 (12 * (m (m a0 48) a4))) + a6))) = 0) →
          ((1 : Int) = 0 ∨ (1 : Int) = 1) ∧ kd h a3 = 103 ∧ 0 < a3 ∧ (0 : Int) ≤ (zor a5 (zshl 1 a6)) ∧ (zor a5 (zshl 1 a6)) < ln h a3 ∧ ∀ m1, m1 = zwr m a3 (zor a5 (zshl 1 a6)) 1 →
          q_Mo_has_78 d a0 a1 a2 a3 a4 a5 (w32 (a6 + 1)) m1 h Q))))) : q_Mo_has_78 d a0 a1 a2 a3 a4 a5 a6 m h Q := zvc_ok zc_Mo_has zm_Mo_has 90 (fun _ => rfl) H
theorem e_Mo_has (d : Nat) (a0 a1 a2 : Int) (m : zM) (h : zH) (Q : zQ) (H : q_Mo_has_0 d a0 a1 a2 m h Q) : zcal WP (d + 1) n_Mo_has [.inr (.inr a0), .inl a1, .inl a2] m h Q := zcal_mk rfl H
def zm_Mo_holdsOut : Nat → Option (List Bool) := fun pc => bif Nat.beq pc 34 then some [true, false, true, false, true, true] else (none)
abbrev q_Mo_holdsOut_0 (d : Nat) (a0 a1 a2 a3 : Int) (m : zM) (h : zH) (Q : zQ) : Prop := WP d n_Mo_holdsOut 0 [some (.inr (.inr a0)), some (.inl a1), some (.inl a2), some (.inl a3), none, none] [] m h Q
abbrev q_Mo_holdsOut_34 (d : Nat) (a0 a2 a4 a5 : Int) (m : zM) (h : zH) (Q : zQ) : Prop := WP d n_Mo_holdsOut 34 [some (.inr (.inr a0)), none, some (.inl a2), none, some (.inl a4), some (.inl a5)] [] m h Q
set_option maxRecDepth 100000 in
set_option maxHeartbeats 8000000 in
theorem s_Mo_holdsOut_0 (d : Nat) (a0 a1 a2 a3 : Int) (m : zM) (h : zH) (Q : zQ) (H :
  kd h a0 = 13 ∧ (a3 = 0 →
    kd h a0 = 13 ∧ zcal WP d n_Mo_has [.inr (.inr a0), .inl (zand (w32 ((zshl 1 (m a0 47)) - 1)) (zxor a1 ((-1)))), .inl a2] m h (zk1 fun r1 m1 h1 =>
    (r1 = 0 ∨ r1 = 1) ∧ Q (some (.inl r1)) m1 h1)) ∧
  (¬ (a3 = 0) →
    ((zand (w32 ((zshl 1 (m a0 47)) - 1)) (zxor a1 ((-1)))) ≠ 0 →
      q_Mo_holdsOut_34 d a0 a2 (zand (w32 ((zshl 1 (m a0 47)) - 1)) (zxor a1 ((-1)))) 0 m h Q) ∧
    (¬ ((zand (w32 ((zshl 1 (m a0 47)) - 1)) (zxor a1 ((-1)))) ≠ 0) →
      kd h a0 = 13 ∧ zcal WP d n_Mo_has [.inr (.inr a0), .inl (zand (w32 ((zshl 1 (m a0 47)) - 1)) (zxor a1 ((-1)))), .inl a2] m h (zk1 fun r1 m1 h1 =>
      (r1 = 0 ∨ r1 = 1) ∧ Q (some (.inl r1)) m1 h1)))) : q_Mo_holdsOut_0 d a0 a1 a2 a3 m h Q := zvc_ok zc_Mo_holdsOut zm_Mo_holdsOut 51 (fun _ => rfl) H
set_option maxRecDepth 100000 in
set_option maxHeartbeats 8000000 in
theorem s_Mo_holdsOut_34 (d : Nat) (a0 a2 a4 a5 : Int) (m : zM) (h : zH) (Q : zQ) (H :
  kd h a0 = 13 ∧ ((m a0 47) ≤ a5 →
    ((1 : Int) = 0 ∨ (1 : Int) = 1) ∧ Q (some (.inl (1 : Int))) m h) ∧
  (¬ ((m a0 47) ≤ a5) →
    ((zand (zshr a4 a5) 1) ≠ 1 →
      q_Mo_holdsOut_34 d a0 a2 a4 (w32 (a5 + 1)) m h Q) ∧
    (¬ ((zand (zshr a4 a5) 1) ≠ 1) →
      kd h a0 = 13 ∧ zcal WP d n_Mo_has [.inr (.inr a0), .inl (zand a4 (zxor (zshl 1 a5) ((-1)))), .inl a2] m h (zk1 fun r1 m1 h1 =>
      (r1 ≠ 0 →
        q_Mo_holdsOut_34 d a0 a2 a4 (w32 (a5 + 1)) m1 h1 Q) ∧
      (¬ (r1 ≠ 0) →
        ((0 : Int) = 0 ∨ (0 : Int) = 1) ∧ Q (some (.inl (0 : Int))) m1 h1))))) : q_Mo_holdsOut_34 d a0 a2 a4 a5 m h Q := zvc_ok zc_Mo_holdsOut zm_Mo_holdsOut 51 (fun _ => rfl) H
theorem e_Mo_holdsOut (d : Nat) (a0 a1 a2 a3 : Int) (m : zM) (h : zH) (Q : zQ) (H : q_Mo_holdsOut_0 d a0 a1 a2 a3 m h Q) : zcal WP (d + 1) n_Mo_holdsOut [.inr (.inr a0), .inl a1, .inl a2, .inl a3] m h Q := zcal_mk rfl H
def zm_Mo_months : Nat → Option (List Bool) := fun pc => bif Nat.beq pc 85 then some [true, true, true, true, true, true, true, true, false, false, false] else (bif Nat.beq pc 127 then some [true, false, true, true, true, true, true, true, false, false, false] else (bif Nat.beq pc 142 then some [true, false, true, true, true, true, true, true, true, true, false] else (bif Nat.beq pc 226 then some [true, false, true, false, false, false, true, true, true, false, false] else (bif Nat.beq pc 248 then some [true, false, true, false, false, false, true, true, true, false, false] else (bif Nat.beq pc 265 then some [true, false, true, false, false, false, true, true, true, true, true] else (bif Nat.beq pc 309 then some [true, false, false, false, false, false, true, false, false, false, true] else (bif Nat.beq pc 333 then some [true, false, false, false, false, false, true, false, false, false, true] else (none))))))))
abbrev q_Mo_months_0 (d : Nat) (a0 a1 a2 a3 a4 a5 : Int) (m : zM) (h : zH) (Q : zQ) : Prop := WP d n_Mo_months 0 [some (.inr (.inr a0)), some (.inl a1), some (.inl a2), some (.inl a3), some (.inl a4), some (.inl a5), none, none, none, none, none] [] m h Q
abbrev q_Mo_months_85 (d : Nat) (a0 a1 a2 a3 a4 a5 a6 a7 : Int) (m : zM) (h : zH) (Q : zQ) : Prop := WP d n_Mo_months 85 [some (.inr (.inr a0)), some (.inl a1), some (.inl a2), some (.inl a3), some (.inl a4), some (.inl a5), some (.inl a6), some (.inl a7), none, none, none] [] m h Q
abbrev q_Mo_months_127 (d : Nat) (a0 a2 a3 a4 a5 a6 a7 : Int) (m : zM) (h : zH) (Q : zQ) : Prop := WP d n_Mo_months 127 [some (.inr (.inr a0)), none, some (.inl a2), some (.inl a3), some (.inl a4), some (.inl a5), some (.inl a6), some (.inl a7), none, none, none] [] m h Q
abbrev q_Mo_months_142 (d : Nat) (a0 a2 a3 a4 a5 a6 a7 a8 a9 : Int) (m : zM) (h : zH) (Q : zQ) : Prop := WP d n_Mo_months 142 [some (.inr (.inr a0)), none, some (.inl a2), some (.inl a3), some (.inl a4), some (.inl a5), some (.inl a6), some (.inl a7), some (.inl a8), some (.inl a9), none] [] m h Q
abbrev q_Mo_months_226 (d : Nat) (a0 a2 a6 a7 a8 : Int) (m : zM) (h : zH) (Q : zQ) : Prop := WP d n_Mo_months 226 [some (.inr (.inr a0)), none, some (.inl a2), none, none, none, some (.inl a6), some (.inl a7), some (.inl a8), none, none] [] m h Q
abbrev q_Mo_months_248 (d : Nat) (a0 a2 a6 a7 a8 : Int) (m : zM) (h : zH) (Q : zQ) : Prop := WP d n_Mo_months 248 [some (.inr (.inr a0)), none, some (.inl a2), none, none, none, some (.inl a6), some (.inl a7), some (.inl a8), none, none] [] m h Q
abbrev q_Mo_months_265 (d : Nat) (a0 a2 a6 a7 a8 a9 a10 : Int) (m : zM) (h : zH) (Q : zQ) : Prop := WP d n_Mo_months 265 [some (.inr (.inr a0)), none, some (.inl a2), none, none, none, some (.inl a6), some (.inl a7), some (.inl a8), some (.inl a9), some (.inl a10)] [] m h Q
abbrev q_Mo_months_309 (d : Nat) (a0 a6 a10 : Int) (m : zM) (h : zH) (Q : zQ) : Prop := WP d n_Mo_months 309 [some (.inr (.inr a0)), none, none, none, none, none, some (.inl a6), none, none, none, some (.inl a10)] [] m h Q
abbrev q_Mo_months_333 (d : Nat) (a0 a6 a10 : Int) (m : zM) (h : zH) (Q : zQ) : Prop := WP d n_Mo_months 333 [some (.inr (.inr a0)), none, none, none, none, none, some (.inl a6), none, none, none, some (.inl a10)] [] m h Q
set_option maxRecDepth 100000 in
set_option maxHeartbeats 8000000 in
theorem s_Mo_months_0 (d : Nat) (a0 a1 a2 a3 a4 a5 : Int) (m : zM) (h : zH) (Q : zQ) (H :
  (a1 < 1 →
    Q (some (.inl ((-1)))) m h) ∧
  (¬ (a1 < 1) →
    kd h a0 = 13 ∧ ((zshl 1 (m a0 47)) ≤ a1 →
      Q (some (.inl ((-1)))) m h) ∧
    (¬ ((zshl 1 (m a0 47)) ≤ a1) →
      zcal WP d n_Mo_bits [.inl a1] m h (zk1 fun r1 m1 h1 =>
      ((5 : Int) < r1 →
        Q (some (.inl ((-1)))) m1 h1) ∧
      (¬ ((5 : Int) < r1) →
        zcal WP d n_Mo_in [.inl a2, .inl 1, .inl 5] m1 h1 (zk1 fun r2 m2 h2 =>
        (r2 = 0 →
          Q (some (.inl ((-1)))) m2 h2) ∧
        (¬ (r2 = 0) →
          zcal WP d n_Mo_in [.inl a3, .inl 1, .inl 5] m2 h2 (zk1 fun r3 m3 h3 =>
          (r3 = 0 →
            Q (some (.inl ((-1)))) m3 h3) ∧
          (¬ (r3 = 0) →
            (a4 < 0 →
              Q (some (.inl ((-1)))) m3 h3) ∧
            (¬ (a4 < 0) →
              kd h3 a0 = 13 ∧ ((zshl 1 (m3 a0 52)) ≤ a4 →
                Q (some (.inl ((-1)))) m3 h3) ∧
              (¬ ((zshl 1 (m3 a0 52)) ≤ a4) →
                zcal WP d n_Mo_bits [.inl a4] m3 h3 (zk1 fun r4 m4 h4 =>
                ((8 : Int) < r4 →
                  Q (some (.inl ((-1)))) m4 h4) ∧
                (¬ ((8 : Int) < r4) →
                  zcal WP d n_Mo_in [.inl a5, .inl 0, .inl 1] m4 h4 (zk1 fun r5 m5 h5 =>
                  (r5 ≠ 0 →
                    q_Mo_months_85 d a0 a1 a2 a3 a4 a5 0 0 m5 h5 Q) ∧
                  (¬ (r5 ≠ 0) →
                    Q (some (.inl ((-1)))) m5 h5))))))))))))))) : q_Mo_months_0 d a0 a1 a2 a3 a4 a5 m h Q := zvc_ok zc_Mo_months zm_Mo_months 198 (fun _ => rfl) H
set_option maxRecDepth 100000 in
set_option maxHeartbeats 8000000 in
theorem s_Mo_months_85 (d : Nat) (a0 a1 a2 a3 a4 a5 a6 a7 : Int) (m : zM) (h : zH) (Q : zQ) (H :
  kd h a0 = 13 ∧ ((m a0 47) ≤ a7 →
    q_Mo_months_127 d a0 a2 a3 a4 a5 a6 0 m h Q) ∧
  (¬ ((m a0 47) ≤ a7) →
    ((zand (zshr a1 a7) 1) ≠ 0 →
      kd h a0 = 13 ∧ kd h (m a0 111) = 101 ∧ 0 < (m a0 111) ∧ (0 : Int) ≤ a6 ∧ a6 < ln h (m a0 111) ∧ ∀ m1, m1 = zwr m (m a0 111) a6 a7 →
      q_Mo_months_85 d a0 a1 a2 a3 a4 a5 (w32 (a6 + 1)) (w32 (a7 + 1)) m1 h Q) ∧
    (¬ ((zand (zshr a1 a7) 1) ≠ 0) →
      q_Mo_months_85 d a0 a1 a2 a3 a4 a5 a6 (w32 (a7 + 1)) m h Q))) : q_Mo_months_85 d a0 a1 a2 a3 a4 a5 a6 a7 m h Q := zvc_ok zc_Mo_months zm_Mo_months 198 (fun _ => rfl) H
set_option maxRecDepth 100000 in
set_option maxHeartbeats 8000000 in
theorem s_Mo_months_127 (d : Nat) (a0 a2 a3 a4 a5 a6 a7 : Int) (m : zM) (h : zH) (Q : zQ) (H :
  ((zshl 1 a6) ≤ a7 →
    q_Mo_months_226 d a0 a2 a6 1 0 m h Q) ∧
  (¬ ((zshl 1 a6) ≤ a7) →
    q_Mo_months_142 d a0 a2 a3 a4 a5 a6 a7 0 0 m h Q)) : q_Mo_months_127 d a0 a2 a3 a4 a5 a6 a7 m h Q := zvc_ok zc_Mo_months zm_Mo_months 198 (fun _ => rfl) H
set_option maxRecDepth 100000 in
set_option maxHeartbeats 8000000 in
theorem s_Mo_months_142 (d : Nat) (a0 a2 a3 a4 a5 a6 a7 a8 a9 : Int) (m : zM) (h : zH) (Q : zQ) (H :
  (a6 ≤ a9 →
    kd h a0 = 13 ∧ zcal WP d n_Mo_bits [.inl a7] m h (zk1 fun r1 m1 h1 =>
    (a3 < r1 →
      ((0 : Int) = 0 ∨ (0 : Int) = 1) ∧ kd h1 (m a0 113) = 103 ∧ 0 < (m a0 113) ∧ (0 : Int) ≤ a7 ∧ a7 < ln h1 (m a0 113) ∧ ∀ m2, m2 = zwr m1 (m a0 113) a7 0 →
      q_Mo_months_127 d a0 a2 a3 a4 a5 a6 (w32 (a7 + 1)) m2 h1 Q) ∧
    (¬ (a3 < r1) →
      kd h1 a0 = 13 ∧ zcal WP d n_Mo_holdsOut [.inr (.inr a0), .inl a8, .inl a4, .inl a5] m1 h1 (zk1 fun r2 m2 h2 =>
      (r2 = 0 →
        ((0 : Int) = 0 ∨ (0 : Int) = 1) ∧ kd h2 (m a0 113) = 103 ∧ 0 < (m a0 113) ∧ (0 : Int) ≤ a7 ∧ a7 < ln h2 (m a0 113) ∧ ∀ m3, m3 = zwr m2 (m a0 113) a7 0 →
        q_Mo_months_127 d a0 a2 a3 a4 a5 a6 (w32 (a7 + 1)) m3 h2 Q) ∧
      (¬ (r2 = 0) →
        ((1 : Int) = 0 ∨ (1 : Int) = 1) ∧ kd h2 (m a0 113) = 103 ∧ 0 < (m a0 113) ∧ (0 : Int) ≤ a7 ∧ a7 < ln h2 (m a0 113) ∧ ∀ m3, m3 = zwr m2 (m a0 113) a7 1 →
        q_Mo_months_127 d a0 a2 a3 a4 a5 a6 (w32 (a7 + 1)) m3 h2 Q))))) ∧
  (¬ (a6 ≤ a9) →
    ((zand (zshr a7 a9) 1) ≠ 1 →
      q_Mo_months_142 d a0 a2 a3 a4 a5 a6 a7 a8 (w32 (a9 + 1)) m h Q) ∧
    (¬ ((zand (zshr a7 a9) 1) ≠ 1) →
      kd h a0 = 13 ∧ kd h (m a0 111) = 101 ∧ (0 : Int) ≤ a9 ∧ a9 < ln h (m a0 111) ∧ q_Mo_months_142 d a0 a2 a3 a4 a5 a6 a7 (zor a8 (zshl 1 (m (m a0 111) a9))) (w32 (a9 + 1)) m h Q))) : q_Mo_months_142 d a0 a2 a3 a4 a5 a6 a7 a8 a9 m h Q := zvc_ok zc_Mo_months zm_Mo_months 198 (fun _ => rfl) H
set_option maxRecDepth 100000 in
set_option maxHeartbeats 8000000 in
theorem s_Mo_months_226 (d : Nat) (a0 a2 a6 a7 a8 : Int) (m : zM) (h : zH) (Q : zQ) (H :
  (a6 ≤ a8 →
    q_Mo_months_248 d a0 a2 a6 a7 0 m h Q) ∧
  (¬ (a6 ≤ a8) →
    q_Mo_months_226 d a0 a2 a6 (w32 (a7 * a2)) (w32 (a8 + 1)) m h Q)) : q_Mo_months_226 d a0 a2 a6 a7 a8 m h Q := zvc_ok zc_Mo_months zm_Mo_months 198 (fun _ => rfl) H
set_option maxRecDepth 100000 in
set_option maxHeartbeats 8000000 in
theorem s_Mo_months_248 (d : Nat) (a0 a2 a6 a7 a8 : Int) (m : zM) (h : zH) (Q : zQ) (H :
  (a7 ≤ a8 →
    Q (some (.inl ((-2)))) m h) ∧
  (¬ (a7 ≤ a8) →
    q_Mo_months_265 d a0 a2 a6 a7 a8 a8 (w32 (a6 - 1)) m h Q)) : q_Mo_months_248 d a0 a2 a6 a7 a8 m h Q := zvc_ok zc_Mo_months zm_Mo_months 198 (fun _ => rfl) H
set_option maxRecDepth 100000 in
set_option maxHeartbeats 8000000 in
theorem s_Mo_months_265 (d : Nat) (a0 a2 a6 a7 a8 a9 a10 : Int) (m : zM) (h : zH) (Q : zQ) (H :
  (a10 < 0 →
    kd h a0 = 13 ∧ zcal WP d n_Mo_isGood [.inr (.inr a0), .inl a6, .inl a2] m h (zk1 fun r1 m1 h1 =>
    (r1 ≠ 0 →
      q_Mo_months_309 d a0 a6 0 m1 h1 Q) ∧
    (¬ (r1 ≠ 0) →
      q_Mo_months_248 d a0 a2 a6 a7 (w32 (a8 + 1)) m1 h1 Q))) ∧
  (¬ (a10 < 0) →
    kd h a0 = 13 ∧ a2 ≠ 0 ∧ kd h (m a0 112) = 101 ∧ 0 < (m a0 112) ∧ (0 : Int) ≤ a10 ∧ a10 < ln h (m a0 112) ∧ ∀ m1, m1 = zwr m (m a0 112) a10 (zrem a9 a2) →
    a2 ≠ 0 ∧ q_Mo_months_265 d a0 a2 a6 a7 a8 (zdiv a9 a2) (w32 (a10 + (-1))) m1 h Q)) : q_Mo_months_265 d a0 a2 a6 a7 a8 a9 a10 m h Q := zvc_ok zc_Mo_months zm_Mo_months 198 (fun _ => rfl) H
set_option maxRecDepth 100000 in
set_option maxHeartbeats 8000000 in
theorem s_Mo_months_309 (d : Nat) (a0 a6 a10 : Int) (m : zM) (h : zH) (Q : zQ) (H :
  ((9 : Int) ≤ a10 →
    q_Mo_months_333 d a0 a6 0 m h Q) ∧
  (¬ ((9 : Int) ≤ a10) →
    kd h a0 = 13 ∧ kd h (m a0 110) = 101 ∧ 0 < (m a0 110) ∧ (0 : Int) ≤ a10 ∧ a10 < ln h (m a0 110) ∧ ∀ m1, m1 = zwr m (m a0 110) a10 ((-1)) →
    q_Mo_months_309 d a0 a6 (w32 (a10 + 1)) m1 h Q)) : q_Mo_months_309 d a0 a6 a10 m h Q := zvc_ok zc_Mo_months zm_Mo_months 198 (fun _ => rfl) H
set_option maxRecDepth 100000 in
set_option maxHeartbeats 8000000 in
theorem s_Mo_months_333 (d : Nat) (a0 a6 a10 : Int) (m : zM) (h : zH) (Q : zQ) (H :
  (a6 ≤ a10 →
    Q (some (.inl (0 : Int))) m h) ∧
  (¬ (a6 ≤ a10) →
    kd h a0 = 13 ∧ kd h a0 = 13 ∧ kd h (m a0 111) = 101 ∧ (0 : Int) ≤ a10 ∧ a10 < ln h (m a0 111) ∧ kd h a0 = 13 ∧ kd h (m a0 112) = 101 ∧ (0 : Int) ≤ a10 ∧ a10 < ln h (m a0 112) ∧ kd h (m a0 110) = 101 ∧ 0 < (m a0 110) ∧ (0 : Int) ≤ (m (m a0 111) a10) ∧ (m (m a0 111) a10) < ln h (m a0 110) ∧ ∀ m1, m1 = zwr m (m a0 110) (m (m a0 111) a10) (m (m a0 112) a10) →
    q_Mo_months_333 d a0 a6 (w32 (a10 + 1)) m1 h Q)) : q_Mo_months_333 d a0 a6 a10 m h Q := zvc_ok zc_Mo_months zm_Mo_months 198 (fun _ => rfl) H
theorem e_Mo_months (d : Nat) (a0 a1 a2 a3 a4 a5 : Int) (m : zM) (h : zH) (Q : zQ) (H : q_Mo_months_0 d a0 a1 a2 a3 a4 a5 m h Q) : zcal WP (d + 1) n_Mo_months [.inr (.inr a0), .inl a1, .inl a2, .inl a3, .inl a4, .inl a5] m h Q := zcal_mk rfl H
def zm_Mo_isGood : Nat → Option (List Bool) := fun pc => bif Nat.beq pc 2 then some [true, true, true, true, false, false] else (bif Nat.beq pc 13 then some [true, true, true, true, true, true] else (none))
abbrev q_Mo_isGood_0 (d : Nat) (a0 a1 a2 : Int) (m : zM) (h : zH) (Q : zQ) : Prop := WP d n_Mo_isGood 0 [some (.inr (.inr a0)), some (.inl a1), some (.inl a2), none, none, none] [] m h Q
abbrev q_Mo_isGood_2 (d : Nat) (a0 a1 a2 a3 : Int) (m : zM) (h : zH) (Q : zQ) : Prop := WP d n_Mo_isGood 2 [some (.inr (.inr a0)), some (.inl a1), some (.inl a2), some (.inl a3), none, none] [] m h Q
abbrev q_Mo_isGood_13 (d : Nat) (a0 a1 a2 a3 a4 a5 : Int) (m : zM) (h : zH) (Q : zQ) : Prop := WP d n_Mo_isGood 13 [some (.inr (.inr a0)), some (.inl a1), some (.inl a2), some (.inl a3), some (.inl a4), some (.inl a5)] [] m h Q
set_option maxRecDepth 100000 in
set_option maxHeartbeats 8000000 in
theorem s_Mo_isGood_0 (d : Nat) (a0 a1 a2 : Int) (m : zM) (h : zH) (Q : zQ) (H :
  q_Mo_isGood_2 d a0 a1 a2 0 m h Q) : q_Mo_isGood_0 d a0 a1 a2 m h Q := zvc_ok zc_Mo_isGood zm_Mo_isGood 38 (fun _ => rfl) H
set_option maxRecDepth 100000 in
set_option maxHeartbeats 8000000 in
theorem s_Mo_isGood_2 (d : Nat) (a0 a1 a2 a3 : Int) (m : zM) (h : zH) (Q : zQ) (H :
  (a2 ≤ a3 →
    ((1 : Int) = 0 ∨ (1 : Int) = 1) ∧ Q (some (.inl (1 : Int))) m h) ∧
  (¬ (a2 ≤ a3) →
    q_Mo_isGood_13 d a0 a1 a2 a3 0 0 m h Q)) : q_Mo_isGood_2 d a0 a1 a2 a3 m h Q := zvc_ok zc_Mo_isGood zm_Mo_isGood 38 (fun _ => rfl) H
set_option maxRecDepth 100000 in
set_option maxHeartbeats 8000000 in
theorem s_Mo_isGood_13 (d : Nat) (a0 a1 a2 a3 a4 a5 : Int) (m : zM) (h : zH) (Q : zQ) (H :
  (a1 ≤ a5 →
    kd h a0 = 13 ∧ kd h (m a0 113) = 103 ∧ (0 : Int) ≤ a4 ∧ a4 < ln h (m a0 113) ∧ ((m (m a0 113) a4) ≠ 0 →
      q_Mo_isGood_2 d a0 a1 a2 (w32 (a3 + 1)) m h Q) ∧
    (¬ ((m (m a0 113) a4) ≠ 0) →
      ((0 : Int) = 0 ∨ (0 : Int) = 1) ∧ Q (some (.inl (0 : Int))) m h)) ∧
  (¬ (a1 ≤ a5) →
    kd h a0 = 13 ∧ kd h (m a0 112) = 101 ∧ (0 : Int) ≤ a5 ∧ a5 < ln h (m a0 112) ∧ ((m (m a0 112) a5) ≠ a3 →
      q_Mo_isGood_13 d a0 a1 a2 a3 a4 (w32 (a5 + 1)) m h Q) ∧
    (¬ ((m (m a0 112) a5) ≠ a3) →
      q_Mo_isGood_13 d a0 a1 a2 a3 (zor a4 (zshl 1 a5)) (w32 (a5 + 1)) m h Q))) : q_Mo_isGood_13 d a0 a1 a2 a3 a4 a5 m h Q := zvc_ok zc_Mo_isGood zm_Mo_isGood 38 (fun _ => rfl) H
theorem e_Mo_isGood (d : Nat) (a0 a1 a2 : Int) (m : zM) (h : zH) (Q : zQ) (H : q_Mo_isGood_0 d a0 a1 a2 m h Q) : zcal WP (d + 1) n_Mo_isGood [.inr (.inr a0), .inl a1, .inl a2] m h Q := zcal_mk rfl H
def zm_Mo_month : Nat → Option (List Bool) := fun pc => none
abbrev q_Mo_month_0 (d : Nat) (a0 a1 : Int) (m : zM) (h : zH) (Q : zQ) : Prop := WP d n_Mo_month 0 [some (.inr (.inr a0)), some (.inl a1)] [] m h Q
set_option maxRecDepth 100000 in
set_option maxHeartbeats 8000000 in
theorem s_Mo_month_0 (d : Nat) (a0 a1 : Int) (m : zM) (h : zH) (Q : zQ) (H :
  zcal WP d n_Mo_in [.inl a1, .inl 0, .inl 8] m h (zk1 fun r1 m1 h1 =>
  (r1 = 0 →
    Q (some (.inl ((-1)))) m1 h1) ∧
  (¬ (r1 = 0) →
    kd h1 a0 = 13 ∧ kd h1 (m1 a0 110) = 101 ∧ (0 : Int) ≤ a1 ∧ a1 < ln h1 (m1 a0 110) ∧ Q (some (.inl (m1 (m1 a0 110) a1))) m1 h1))) : q_Mo_month_0 d a0 a1 m h Q := zvc_ok zc_Mo_month zm_Mo_month 13 (fun _ => rfl) H
theorem e_Mo_month (d : Nat) (a0 a1 : Int) (m : zM) (h : zH) (Q : zQ) (H : q_Mo_month_0 d a0 a1 m h Q) : zcal WP (d + 1) n_Mo_month [.inr (.inr a0), .inl a1] m h Q := zcal_mk rfl H
def zm_Mo_causesOf : Nat → Option (List Bool) := fun pc => bif Nat.beq pc 12 then some [true, true, true, true, false, false, false, false] else (bif Nat.beq pc 97 then some [true, true, true, true, false, false, false, false] else (bif Nat.beq pc 127 then some [true, false, true, true, false, false, false, false] else (bif Nat.beq pc 152 then some [true, false, true, true, true, false, false, false] else (bif Nat.beq pc 178 then some [true, false, true, true, true, true, false, false] else (bif Nat.beq pc 195 then some [true, false, true, true, true, true, false, false] else (bif Nat.beq pc 217 then some [true, false, true, true, true, true, true, false] else (bif Nat.beq pc 234 then some [true, false, true, true, true, true, true, false] else (bif Nat.beq pc 256 then some [true, false, true, true, true, true, true, false] else (bif Nat.beq pc 272 then some [true, false, true, true, true, true, true, false] else (none))))))))))
abbrev q_Mo_causesOf_0 (d : Nat) (a0 a1 a2 : Int) (m : zM) (h : zH) (Q : zQ) : Prop := WP d n_Mo_causesOf 0 [some (.inr (.inr a0)), some (.inl a1), some (.inl a2), none, none, none, none, none] [] m h Q
abbrev q_Mo_causesOf_12 (d : Nat) (a0 a1 a2 a3 : Int) (m : zM) (h : zH) (Q : zQ) : Prop := WP d n_Mo_causesOf 12 [some (.inr (.inr a0)), some (.inl a1), some (.inl a2), some (.inl a3), none, none, none, none] [] m h Q
abbrev q_Mo_causesOf_97 (d : Nat) (a0 a1 a2 a3 s0 s1 s2 s3 : Int) (m : zM) (h : zH) (Q : zQ) : Prop := WP d n_Mo_causesOf 97 [some (.inr (.inr a0)), some (.inl a1), some (.inl a2), some (.inl a3), none, none, none, none] [.inl s0, .inl s1, .inl s2, .inr (.inr s3)] m h Q
abbrev q_Mo_causesOf_127 (d : Nat) (a0 a2 a3 : Int) (m : zM) (h : zH) (Q : zQ) : Prop := WP d n_Mo_causesOf 127 [some (.inr (.inr a0)), none, some (.inl a2), some (.inl a3), none, none, none, none] [] m h Q
abbrev q_Mo_causesOf_152 (d : Nat) (a0 a2 a3 a4 : Int) (m : zM) (h : zH) (Q : zQ) : Prop := WP d n_Mo_causesOf 152 [some (.inr (.inr a0)), none, some (.inl a2), some (.inl a3), some (.inl a4), none, none, none] [] m h Q
abbrev q_Mo_causesOf_178 (d : Nat) (a0 a2 a3 a4 a5 : Int) (m : zM) (h : zH) (Q : zQ) : Prop := WP d n_Mo_causesOf 178 [some (.inr (.inr a0)), none, some (.inl a2), some (.inl a3), some (.inl a4), some (.inl a5), none, none] [] m h Q
abbrev q_Mo_causesOf_195 (d : Nat) (a0 a2 a3 a4 a5 s0 s1 : Int) (m : zM) (h : zH) (Q : zQ) : Prop := WP d n_Mo_causesOf 195 [some (.inr (.inr a0)), none, some (.inl a2), some (.inl a3), some (.inl a4), some (.inl a5), none, none] [.inl s0, .inl s1] m h Q
abbrev q_Mo_causesOf_217 (d : Nat) (a0 a2 a3 a4 a5 a6 : Int) (m : zM) (h : zH) (Q : zQ) : Prop := WP d n_Mo_causesOf 217 [some (.inr (.inr a0)), none, some (.inl a2), some (.inl a3), some (.inl a4), some (.inl a5), some (.inl a6), none] [] m h Q
abbrev q_Mo_causesOf_234 (d : Nat) (a0 a2 a3 a4 a5 a6 s0 s1 : Int) (m : zM) (h : zH) (Q : zQ) : Prop := WP d n_Mo_causesOf 234 [some (.inr (.inr a0)), none, some (.inl a2), some (.inl a3), some (.inl a4), some (.inl a5), some (.inl a6), none] [.inl s0, .inl s1] m h Q
abbrev q_Mo_causesOf_256 (d : Nat) (a0 a2 a3 a4 a5 a6 s0 s1 : Int) (m : zM) (h : zH) (Q : zQ) : Prop := WP d n_Mo_causesOf 256 [some (.inr (.inr a0)), none, some (.inl a2), some (.inl a3), some (.inl a4), some (.inl a5), some (.inl a6), none] [.inl s0, .inl s1] m h Q
abbrev q_Mo_causesOf_272 (d : Nat) (a0 a2 a3 a4 a5 a6 s0 s1 : Int) (m : zM) (h : zH) (Q : zQ) : Prop := WP d n_Mo_causesOf 272 [some (.inr (.inr a0)), none, some (.inl a2), some (.inl a3), some (.inl a4), some (.inl a5), some (.inl a6), none] [.inl s0, .inl s1] m h Q
set_option maxRecDepth 100000 in
set_option maxHeartbeats 8000000 in
theorem s_Mo_causesOf_0 (d : Nat) (a0 a1 a2 : Int) (m : zM) (h : zH) (Q : zQ) (H :
  kd h a0 = 13 ∧ zcal WP d n_Mo_goes [.inr (.inr a0), .inl a1] m h (zk0 fun m1 h1 =>
  kd h1 a0 = 13 ∧ 0 < a0 ∧ ∀ m2, m2 = zwr m1 a0 115 0 →
  q_Mo_causesOf_12 d a0 a1 a2 0 m2 h1 Q)) : q_Mo_causesOf_0 d a0 a1 a2 m h Q := zvc_ok zc_Mo_causesOf zm_Mo_causesOf 187 (fun _ => rfl) H
set_option maxRecDepth 100000 in
set_option maxHeartbeats 8000000 in
theorem s_Mo_causesOf_12 (d : Nat) (a0 a1 a2 a3 : Int) (m : zM) (h : zH) (Q : zQ) (H :
  (a1 ≤ a3 →
    kd h a0 = 13 ∧ 0 < a0 ∧ ∀ m1, m1 = zwr m a0 117 0 →
    kd h a0 = 13 ∧ 0 < a0 ∧ ∀ m2, m2 = zwr m1 a0 118 1 →
    q_Mo_causesOf_127 d a0 a2 ((-1)) m2 h Q) ∧
  (¬ (a1 ≤ a3) →
    kd h a0 = 13 ∧ kd h (m a0 62) = 101 ∧ (0 : Int) ≤ a3 ∧ a3 < ln h (m a0 62) ∧ ((m (m a0 62) a3) ≠ 5 →
      q_Mo_causesOf_12 d a0 a1 a2 (w32 (a3 + 1)) m h Q) ∧
    (¬ ((m (m a0 62) a3) ≠ 5) →
      kd h a0 = 13 ∧ kd h (m a0 93) = 103 ∧ (0 : Int) ≤ a3 ∧ a3 < ln h (m a0 93) ∧ ((m (m a0 93) a3) ≠ 0 →
        kd h a0 = 13 ∧ kd h a0 = 13 ∧ kd h a0 = 13 ∧ kd h a0 = 13 ∧ kd h (m a0 64) = 101 ∧ (0 : Int) ≤ a3 ∧ a3 < ln h (m a0 64) ∧ kd h (m a0 48) = 101 ∧ (0 : Int) ≤ (m (m a0 64) a3) ∧ (m (m a0 64) a3) < ln h (m a0 48) ∧ kd h a0 = 13 ∧ kd h (m a0 94) = 101 ∧ (0 : Int) ≤ a3 ∧ a3 < ln h (m a0 94) ∧ kd h a0 = 13 ∧ kd h (m a0 95) = 101 ∧ (0 : Int) ≤ a3 ∧ a3 < ln h (m a0 95) ∧ ((m (m a0 95) a3) ≠ ((-1)) →
          kd h a0 = 13 ∧ kd h (m a0 95) = 101 ∧ (0 : Int) ≤ a3 ∧ a3 < ln h (m a0 95) ∧ q_Mo_causesOf_97 d a0 a1 a2 a3 (zshl 1 (w32 (16 + (m (m a0 95) a3)))) (zor (zshl 1 (m (m a0 48) (m (m a0 64) a3))) (zshl 1 (w32 (8 + (m (m a0 94) a3))))) (m a0 115) (m a0 116) m h Q) ∧
        (¬ ((m (m a0 95) a3) ≠ ((-1))) →
          q_Mo_causesOf_97 d a0 a1 a2 a3 0 (zor (zshl 1 (m (m a0 48) (m (m a0 64) a3))) (zshl 1 (w32 (8 + (m (m a0 94) a3))))) (m a0 115) (m a0 116) m h Q)) ∧
      (¬ ((m (m a0 93) a3) ≠ 0) →
        q_Mo_causesOf_12 d a0 a1 a2 (w32 (a3 + 1)) m h Q)))) : q_Mo_causesOf_12 d a0 a1 a2 a3 m h Q := zvc_ok zc_Mo_causesOf zm_Mo_causesOf 187 (fun _ => rfl) H
set_option maxRecDepth 100000 in
set_option maxHeartbeats 8000000 in
theorem s_Mo_causesOf_97 (d : Nat) (a0 a1 a2 a3 s0 s1 s2 s3 : Int) (m : zM) (h : zH) (Q : zQ) (H :
  kd h s3 = 101 ∧ 0 < s3 ∧ (0 : Int) ≤ s2 ∧ s2 < ln h s3 ∧ ∀ m1, m1 = zwr m s3 s2 (zor s1 s0) →
  kd h a0 = 13 ∧ kd h a0 = 13 ∧ 0 < a0 ∧ ∀ m2, m2 = zwr m1 a0 115 (w32 ((m1 a0 115) + 1)) →
  q_Mo_causesOf_12 d a0 a1 a2 (w32 (a3 + 1)) m2 h Q) : q_Mo_causesOf_97 d a0 a1 a2 a3 s0 s1 s2 s3 m h Q := zvc_ok zc_Mo_causesOf zm_Mo_causesOf 187 (fun _ => rfl) H
set_option maxRecDepth 100000 in
set_option maxHeartbeats 8000000 in
theorem s_Mo_causesOf_127 (d : Nat) (a0 a2 a3 : Int) (m : zM) (h : zH) (Q : zQ) (H :
  kd h a0 = 13 ∧ ((3 : Int) < (m a0 118) →
    Q (some (.inl a3)) m h) ∧
  (¬ ((3 : Int) < (m a0 118)) →
    kd h a0 = 13 ∧ ((m a0 117) ≠ 0 →
      Q (some (.inl a3)) m h) ∧
    (¬ ((m a0 117) ≠ 0) →
      kd h a0 = 13 ∧ ((m a0 115) ≤ 0 →
        Q (some (.inl a3)) m h) ∧
      (¬ ((m a0 115) ≤ 0) →
        q_Mo_causesOf_152 d a0 a2 a3 0 m h Q)))) : q_Mo_causesOf_127 d a0 a2 a3 m h Q := zvc_ok zc_Mo_causesOf zm_Mo_causesOf 187 (fun _ => rfl) H
set_option maxRecDepth 100000 in
set_option maxHeartbeats 8000000 in
theorem s_Mo_causesOf_152 (d : Nat) (a0 a2 a3 a4 : Int) (m : zM) (h : zH) (Q : zQ) (H :
  ((24 : Int) ≤ a4 →
    kd h a0 = 13 ∧ kd h a0 = 13 ∧ 0 < a0 ∧ ∀ m1, m1 = zwr m a0 118 (w32 ((m a0 118) + 1)) →
    q_Mo_causesOf_127 d a0 a2 a3 m1 h Q) ∧
  (¬ ((24 : Int) ≤ a4) →
    kd h a0 = 13 ∧ ((m a0 118) ≤ 1 →
      q_Mo_causesOf_178 d a0 a2 a3 a4 24 m h Q) ∧
    (¬ ((m a0 118) ≤ 1) →
      q_Mo_causesOf_178 d a0 a2 a3 a4 (w32 (a4 + 1)) m h Q))) : q_Mo_causesOf_152 d a0 a2 a3 a4 m h Q := zvc_ok zc_Mo_causesOf zm_Mo_causesOf 187 (fun _ => rfl) H
set_option maxRecDepth 100000 in
set_option maxHeartbeats 8000000 in
theorem s_Mo_causesOf_178 (d : Nat) (a0 a2 a3 a4 a5 : Int) (m : zM) (h : zH) (Q : zQ) (H :
  kd h a0 = 13 ∧ ((m a0 118) ≤ 1 →
    q_Mo_causesOf_195 d a0 a2 a3 a4 a5 25 a5 m h Q) ∧
  (¬ ((m a0 118) ≤ 1) →
    q_Mo_causesOf_195 d a0 a2 a3 a4 a5 24 a5 m h Q)) : q_Mo_causesOf_178 d a0 a2 a3 a4 a5 m h Q := zvc_ok zc_Mo_causesOf zm_Mo_causesOf 187 (fun _ => rfl) H
set_option maxRecDepth 100000 in
set_option maxHeartbeats 8000000 in
theorem s_Mo_causesOf_195 (d : Nat) (a0 a2 a3 a4 a5 s0 s1 : Int) (m : zM) (h : zH) (Q : zQ) (H :
  (s0 ≤ s1 →
    q_Mo_causesOf_152 d a0 a2 a3 (w32 (a4 + 1)) m h Q) ∧
  (¬ (s0 ≤ s1) →
    kd h a0 = 13 ∧ ((m a0 118) ≤ 2 →
      q_Mo_causesOf_217 d a0 a2 a3 a4 a5 24 m h Q) ∧
    (¬ ((m a0 118) ≤ 2) →
      q_Mo_causesOf_217 d a0 a2 a3 a4 a5 (w32 (a5 + 1)) m h Q))) : q_Mo_causesOf_195 d a0 a2 a3 a4 a5 s0 s1 m h Q := zvc_ok zc_Mo_causesOf zm_Mo_causesOf 187 (fun _ => rfl) H
set_option maxRecDepth 100000 in
set_option maxHeartbeats 8000000 in
theorem s_Mo_causesOf_217 (d : Nat) (a0 a2 a3 a4 a5 a6 : Int) (m : zM) (h : zH) (Q : zQ) (H :
  kd h a0 = 13 ∧ ((m a0 118) ≤ 2 →
    q_Mo_causesOf_234 d a0 a2 a3 a4 a5 a6 25 a6 m h Q) ∧
  (¬ ((m a0 118) ≤ 2) →
    q_Mo_causesOf_234 d a0 a2 a3 a4 a5 a6 24 a6 m h Q)) : q_Mo_causesOf_217 d a0 a2 a3 a4 a5 a6 m h Q := zvc_ok zc_Mo_causesOf zm_Mo_causesOf 187 (fun _ => rfl) H
set_option maxRecDepth 100000 in
set_option maxHeartbeats 8000000 in
theorem s_Mo_causesOf_234 (d : Nat) (a0 a2 a3 a4 a5 a6 s0 s1 : Int) (m : zM) (h : zH) (Q : zQ) (H :
  (s0 ≤ s1 →
    q_Mo_causesOf_178 d a0 a2 a3 a4 (w32 (a5 + 1)) m h Q) ∧
  (¬ (s0 ≤ s1) →
    ((24 : Int) ≤ a5 →
      q_Mo_causesOf_256 d a0 a2 a3 a4 a5 a6 0 (zshl 1 a4) m h Q) ∧
    (¬ ((24 : Int) ≤ a5) →
      q_Mo_causesOf_256 d a0 a2 a3 a4 a5 a6 (zshl 1 a5) (zshl 1 a4) m h Q))) : q_Mo_causesOf_234 d a0 a2 a3 a4 a5 a6 s0 s1 m h Q := zvc_ok zc_Mo_causesOf zm_Mo_causesOf 187 (fun _ => rfl) H
set_option maxRecDepth 100000 in
set_option maxHeartbeats 8000000 in
theorem s_Mo_causesOf_256 (d : Nat) (a0 a2 a3 a4 a5 a6 s0 s1 : Int) (m : zM) (h : zH) (Q : zQ) (H :
  ((24 : Int) ≤ a6 →
    q_Mo_causesOf_272 d a0 a2 a3 a4 a5 a6 0 (zor s1 s0) m h Q) ∧
  (¬ ((24 : Int) ≤ a6) →
    q_Mo_causesOf_272 d a0 a2 a3 a4 a5 a6 (zshl 1 a6) (zor s1 s0) m h Q)) : q_Mo_causesOf_256 d a0 a2 a3 a4 a5 a6 s0 s1 m h Q := zvc_ok zc_Mo_causesOf zm_Mo_causesOf 187 (fun _ => rfl) H
set_option maxRecDepth 100000 in
set_option maxHeartbeats 8000000 in
theorem s_Mo_causesOf_272 (d : Nat) (a0 a2 a3 a4 a5 a6 s0 s1 : Int) (m : zM) (h : zH) (Q : zQ) (H :
  kd h a0 = 13 ∧ zcal WP d n_Mo_hits [.inr (.inr a0), .inl (zor s1 s0)] m h (zk1 fun r1 m1 h1 =>
  (r1 ≠ 0 →
    kd h1 a0 = 13 ∧ ((m1 a0 117) ≠ a2 →
      kd h1 a0 = 13 ∧ kd h1 a0 = 13 ∧ 0 < a0 ∧ ∀ m2, m2 = zwr m1 a0 117 (w32 ((m1 a0 117) + 1)) →
      q_Mo_causesOf_217 d a0 a2 a3 a4 a5 (w32 (a6 + 1)) m2 h1 Q) ∧
    (¬ ((m1 a0 117) ≠ a2) →
      kd h1 a0 = 13 ∧ kd h1 a0 = 13 ∧ 0 < a0 ∧ ∀ m2, m2 = zwr m1 a0 117 (w32 ((m1 a0 117) + 1)) →
      q_Mo_causesOf_217 d a0 a2 (zor s1 s0) a4 a5 (w32 (a6 + 1)) m2 h1 Q)) ∧
  (¬ (r1 ≠ 0) →
    q_Mo_causesOf_217 d a0 a2 a3 a4 a5 (w32 (a6 + 1)) m1 h1 Q))) : q_Mo_causesOf_272 d a0 a2 a3 a4 a5 a6 s0 s1 m h Q := zvc_ok zc_Mo_causesOf zm_Mo_causesOf 187 (fun _ => rfl) H
theorem e_Mo_causesOf (d : Nat) (a0 a1 a2 : Int) (m : zM) (h : zH) (Q : zQ) (H : q_Mo_causesOf_0 d a0 a1 a2 m h Q) : zcal WP (d + 1) n_Mo_causesOf [.inr (.inr a0), .inl a1, .inl a2] m h Q := zcal_mk rfl H
def zm_Mo_hits : Nat → Option (List Bool) := fun pc => bif Nat.beq pc 2 then some [true, true, true] else (none)
abbrev q_Mo_hits_0 (d : Nat) (a0 a1 : Int) (m : zM) (h : zH) (Q : zQ) : Prop := WP d n_Mo_hits 0 [some (.inr (.inr a0)), some (.inl a1), none] [] m h Q
abbrev q_Mo_hits_2 (d : Nat) (a0 a1 a2 : Int) (m : zM) (h : zH) (Q : zQ) : Prop := WP d n_Mo_hits 2 [some (.inr (.inr a0)), some (.inl a1), some (.inl a2)] [] m h Q
set_option maxRecDepth 100000 in
set_option maxHeartbeats 8000000 in
theorem s_Mo_hits_0 (d : Nat) (a0 a1 : Int) (m : zM) (h : zH) (Q : zQ) (H :
  q_Mo_hits_2 d a0 a1 0 m h Q) : q_Mo_hits_0 d a0 a1 m h Q := zvc_ok zc_Mo_hits zm_Mo_hits 20 (fun _ => rfl) H
set_option maxRecDepth 100000 in
set_option maxHeartbeats 8000000 in
theorem s_Mo_hits_2 (d : Nat) (a0 a1 a2 : Int) (m : zM) (h : zH) (Q : zQ) (H :
  kd h a0 = 13 ∧ ((m a0 115) ≤ a2 →
    ((1 : Int) = 0 ∨ (1 : Int) = 1) ∧ Q (some (.inl (1 : Int))) m h) ∧
  (¬ ((m a0 115) ≤ a2) →
    kd h a0 = 13 ∧ kd h (m a0 116) = 101 ∧ (0 : Int) ≤ a2 ∧ a2 < ln h (m a0 116) ∧ ((zand (m (m a0 116) a2) a1) ≠ 0 →
      q_Mo_hits_2 d a0 a1 (w32 (a2 + 1)) m h Q) ∧
    (¬ ((zand (m (m a0 116) a2) a1) ≠ 0) →
      ((0 : Int) = 0 ∨ (0 : Int) = 1) ∧ Q (some (.inl (0 : Int))) m h))) : q_Mo_hits_2 d a0 a1 a2 m h Q := zvc_ok zc_Mo_hits zm_Mo_hits 20 (fun _ => rfl) H
theorem e_Mo_hits (d : Nat) (a0 a1 : Int) (m : zM) (h : zH) (Q : zQ) (H : q_Mo_hits_0 d a0 a1 m h Q) : zcal WP (d + 1) n_Mo_hits [.inr (.inr a0), .inl a1] m h Q := zcal_mk rfl H
def zm_Mo_causes : Nat → Option (List Bool) := fun pc => none
abbrev q_Mo_causes_0 (d : Nat) (a0 a1 : Int) (m : zM) (h : zH) (Q : zQ) : Prop := WP d n_Mo_causes 0 [some (.inr (.inr a0)), some (.inl a1), none] [] m h Q
set_option maxRecDepth 100000 in
set_option maxHeartbeats 8000000 in
theorem s_Mo_causes_0 (d : Nat) (a0 a1 : Int) (m : zM) (h : zH) (Q : zQ) (H :
  kd h a0 = 13 ∧ zcal WP d n_Mo_isKnown [.inr (.inr a0), .inl a1] m h (zk1 fun r1 m1 h1 =>
  (r1 ≠ 0 →
    kd h1 a0 = 13 ∧ zcal WP d n_Mo_causesOf [.inr (.inr a0), .inl a1, .inl ((-1))] m1 h1 (zk1 fun r2 m2 h2 =>
    kd h2 a0 = 13 ∧ ((m2 a0 115) ≠ 0 →
      kd h2 a0 = 13 ∧ ((m2 a0 117) = 0 →
        Q (some (.inl ((-2)))) m2 h2) ∧
      (¬ ((m2 a0 117) = 0) →
        (r2 = ((-1)) →
          kd h2 a0 = 13 ∧ Q (some (.inl (m2 a0 117))) m2 h2) ∧
        (¬ (r2 = ((-1))) →
          Q (some (.inl ((-2)))) m2 h2))) ∧
    (¬ ((m2 a0 115) ≠ 0) →
      Q (some (.inl (0 : Int))) m2 h2))) ∧
  (¬ (r1 ≠ 0) →
    Q (some (.inl ((-1)))) m1 h1))) : q_Mo_causes_0 d a0 a1 m h Q := zvc_ok zc_Mo_causes zm_Mo_causes 28 (fun _ => rfl) H
theorem e_Mo_causes (d : Nat) (a0 a1 : Int) (m : zM) (h : zH) (Q : zQ) (H : q_Mo_causes_0 d a0 a1 m h Q) : zcal WP (d + 1) n_Mo_causes [.inr (.inr a0), .inl a1] m h Q := zcal_mk rfl H
def zm_Mo_cause : Nat → Option (List Bool) := fun pc => none
abbrev q_Mo_cause_0 (d : Nat) (a0 a1 a2 : Int) (m : zM) (h : zH) (Q : zQ) : Prop := WP d n_Mo_cause 0 [some (.inr (.inr a0)), some (.inl a1), some (.inl a2)] [] m h Q
set_option maxRecDepth 100000 in
set_option maxHeartbeats 8000000 in
theorem s_Mo_cause_0 (d : Nat) (a0 a1 a2 : Int) (m : zM) (h : zH) (Q : zQ) (H :
  kd h a0 = 13 ∧ zcal WP d n_Mo_isKnown [.inr (.inr a0), .inl a1] m h (zk1 fun r1 m1 h1 =>
  (r1 = 0 →
    Q (some (.inl ((-1)))) m1 h1) ∧
  (¬ (r1 = 0) →
    ((0 : Int) ≤ a2 →
      kd h1 a0 = 13 ∧ zcal WP d n_Mo_causesOf [.inr (.inr a0), .inl a1, .inl a2] m1 h1 (zk1 fun r2 m2 h2 =>
      Q (some (.inl r2)) m2 h2)) ∧
    (¬ ((0 : Int) ≤ a2) →
      Q (some (.inl ((-1)))) m1 h1)))) : q_Mo_cause_0 d a0 a1 a2 m h Q := zvc_ok zc_Mo_cause zm_Mo_cause 14 (fun _ => rfl) H
theorem e_Mo_cause (d : Nat) (a0 a1 a2 : Int) (m : zM) (h : zH) (Q : zQ) (H : q_Mo_cause_0 d a0 a1 a2 m h Q) : zcal WP (d + 1) n_Mo_cause [.inr (.inr a0), .inl a1, .inl a2] m h Q := zcal_mk rfl H
def zm_Mo_turned : Nat → Option (List Bool) := fun pc => bif Nat.beq pc 25 then some [true, true, true, true] else (bif Nat.beq pc 74 then some [true, true, true, true] else (none))
abbrev q_Mo_turned_0 (d : Nat) (a0 a1 a2 : Int) (m : zM) (h : zH) (Q : zQ) : Prop := WP d n_Mo_turned 0 [some (.inr (.inr a0)), some (.inl a1), some (.inl a2), none] [] m h Q
abbrev q_Mo_turned_25 (d : Nat) (a0 a1 a2 a3 : Int) (m : zM) (h : zH) (Q : zQ) : Prop := WP d n_Mo_turned 25 [some (.inr (.inr a0)), some (.inl a1), some (.inl a2), some (.inl a3)] [] m h Q
abbrev q_Mo_turned_74 (d : Nat) (a0 a1 a2 a3 : Int) (m : zM) (h : zH) (Q : zQ) : Prop := WP d n_Mo_turned 74 [some (.inr (.inr a0)), some (.inl a1), some (.inl a2), some (.inl a3)] [] m h Q
set_option maxRecDepth 100000 in
set_option maxHeartbeats 8000000 in
theorem s_Mo_turned_0 (d : Nat) (a0 a1 a2 : Int) (m : zM) (h : zH) (Q : zQ) (H :
  kd h a0 = 13 ∧ zcal WP d n_Mo_isKnown [.inr (.inr a0), .inl a1] m h (zk1 fun r1 m1 h1 =>
  (r1 = 0 →
    Q (some (.inl ((-1)))) m1 h1) ∧
  (¬ (r1 = 0) →
    kd h1 a0 = 13 ∧ zcal WP d n_Mo_isKnown [.inr (.inr a0), .inl a2] m1 h1 (zk1 fun r2 m2 h2 =>
    (r2 ≠ 0 →
      kd h2 a0 = 13 ∧ zcal WP d n_Mo_goes [.inr (.inr a0), .inl a1] m2 h2 (zk0 fun m3 h3 =>
      q_Mo_turned_25 d a0 a1 a2 0 m3 h3 Q)) ∧
    (¬ (r2 ≠ 0) →
      Q (some (.inl ((-1)))) m2 h2))))) : q_Mo_turned_0 d a0 a1 a2 m h Q := zvc_ok zc_Mo_turned zm_Mo_turned 75 (fun _ => rfl) H
set_option maxRecDepth 100000 in
set_option maxHeartbeats 8000000 in
theorem s_Mo_turned_25 (d : Nat) (a0 a1 a2 a3 : Int) (m : zM) (h : zH) (Q : zQ) (H :
  (a1 ≤ a3 →
    kd h a0 = 13 ∧ zcal WP d n_Mo_goes [.inr (.inr a0), .inl a2] m h (zk0 fun m1 h1 =>
    q_Mo_turned_74 d a0 a1 a2 0 m1 h1 Q)) ∧
  (¬ (a1 ≤ a3) →
    kd h a0 = 13 ∧ kd h a0 = 13 ∧ kd h (m a0 62) = 101 ∧ (0 : Int) ≤ a3 ∧ a3 < ln h (m a0 62) ∧ ((m (m a0 62) a3) ≠ 8 →
      ((0 : Int) = 0 ∨ (0 : Int) = 1) ∧ kd h (m a0 119) = 103 ∧ 0 < (m a0 119) ∧ (0 : Int) ≤ a3 ∧ a3 < ln h (m a0 119) ∧ ∀ m1, m1 = zwr m (m a0 119) a3 0 →
      q_Mo_turned_25 d a0 a1 a2 (w32 (a3 + 1)) m1 h Q) ∧
    (¬ ((m (m a0 62) a3) ≠ 8) →
      kd h a0 = 13 ∧ kd h (m a0 86) = 101 ∧ (0 : Int) ≤ a3 ∧ a3 < ln h (m a0 86) ∧ ((m (m a0 86) a3) ≠ 0 →
        ((0 : Int) = 0 ∨ (0 : Int) = 1) ∧ kd h (m a0 119) = 103 ∧ 0 < (m a0 119) ∧ (0 : Int) ≤ a3 ∧ a3 < ln h (m a0 119) ∧ ∀ m1, m1 = zwr m (m a0 119) a3 0 →
        q_Mo_turned_25 d a0 a1 a2 (w32 (a3 + 1)) m1 h Q) ∧
      (¬ ((m (m a0 86) a3) ≠ 0) →
        ((1 : Int) = 0 ∨ (1 : Int) = 1) ∧ kd h (m a0 119) = 103 ∧ 0 < (m a0 119) ∧ (0 : Int) ≤ a3 ∧ a3 < ln h (m a0 119) ∧ ∀ m1, m1 = zwr m (m a0 119) a3 1 →
        q_Mo_turned_25 d a0 a1 a2 (w32 (a3 + 1)) m1 h Q)))) : q_Mo_turned_25 d a0 a1 a2 a3 m h Q := zvc_ok zc_Mo_turned zm_Mo_turned 75 (fun _ => rfl) H
set_option maxRecDepth 100000 in
set_option maxHeartbeats 8000000 in
theorem s_Mo_turned_74 (d : Nat) (a0 a1 a2 a3 : Int) (m : zM) (h : zH) (Q : zQ) (H :
  (a1 ≤ a3 →
    Q (some (.inl ((-1)))) m h) ∧
  (¬ (a1 ≤ a3) →
    (a2 ≤ a3 →
      Q (some (.inl ((-1)))) m h) ∧
    (¬ (a2 ≤ a3) →
      kd h a0 = 13 ∧ kd h (m a0 62) = 101 ∧ (0 : Int) ≤ a3 ∧ a3 < ln h (m a0 62) ∧ ((m (m a0 62) a3) ≠ 8 →
        q_Mo_turned_74 d a0 a1 a2 (w32 (a3 + 1)) m h Q) ∧
      (¬ ((m (m a0 62) a3) ≠ 8) →
        kd h a0 = 13 ∧ kd h (m a0 119) = 103 ∧ (0 : Int) ≤ a3 ∧ a3 < ln h (m a0 119) ∧ kd h a0 = 13 ∧ kd h (m a0 86) = 101 ∧ (0 : Int) ≤ a3 ∧ a3 < ln h (m a0 86) ∧ ((m (m a0 86) a3) ≠ 0 →
          ((m (m a0 119) a3) = 0 →
            q_Mo_turned_74 d a0 a1 a2 (w32 (a3 + 1)) m h Q) ∧
          (¬ ((m (m a0 119) a3) = 0) →
            Q (some (.inl a3)) m h)) ∧
        (¬ ((m (m a0 86) a3) ≠ 0) →
          ((m (m a0 119) a3) = 1 →
            q_Mo_turned_74 d a0 a1 a2 (w32 (a3 + 1)) m h Q) ∧
          (¬ ((m (m a0 119) a3) = 1) →
            Q (some (.inl a3)) m h)))))) : q_Mo_turned_74 d a0 a1 a2 a3 m h Q := zvc_ok zc_Mo_turned zm_Mo_turned 75 (fun _ => rfl) H
theorem e_Mo_turned (d : Nat) (a0 a1 a2 : Int) (m : zM) (h : zH) (Q : zQ) (H : q_Mo_turned_0 d a0 a1 a2 m h Q) : zcal WP (d + 1) n_Mo_turned [.inr (.inr a0), .inl a1, .inl a2] m h Q := zcal_mk rfl H
def zm_Mo_count : Nat → Option (List Bool) := fun pc => none
abbrev q_Mo_count_0 (d : Nat) (a0 a1 : Int) (m : zM) (h : zH) (Q : zQ) : Prop := WP d n_Mo_count 0 [some (.inr (.inr a0)), some (.inl a1)] [] m h Q
set_option maxRecDepth 100000 in
set_option maxHeartbeats 8000000 in
theorem s_Mo_count_0 (d : Nat) (a0 a1 : Int) (m : zM) (h : zH) (Q : zQ) (H :
  (a1 = 0 →
    kd h a0 = 13 ∧ Q (some (.inl (m a0 45))) m h) ∧
  (¬ a1 = 0 →
  (a1 = 1 →
    kd h a0 = 13 ∧ Q (some (.inl (m a0 47))) m h) ∧
  (¬ a1 = 1 →
  (a1 = 2 →
    kd h a0 = 13 ∧ Q (some (.inl (m a0 50))) m h) ∧
  (¬ a1 = 2 →
  (a1 = 3 →
    kd h a0 = 13 ∧ Q (some (.inl (m a0 52))) m h) ∧
  (¬ a1 = 3 →
  (a1 = 4 →
    kd h a0 = 13 ∧ Q (some (.inl (m a0 61))) m h) ∧
  (¬ a1 = 4 →
  (a1 = 5 →
    kd h a0 = 13 ∧ Q (some (.inl (m a0 18))) m h) ∧
  (¬ a1 = 5 →
  (a1 = 6 →
    kd h a0 = 13 ∧ Q (some (.inl (m a0 2))) m h) ∧
  (¬ a1 = 6 →
    Q (some (.inl ((-1)))) m h)))))))) : q_Mo_count_0 d a0 a1 m h Q := zvc_ok zc_Mo_count zm_Mo_count 26 (fun _ => rfl) H
theorem e_Mo_count (d : Nat) (a0 a1 : Int) (m : zM) (h : zH) (Q : zQ) (H : q_Mo_count_0 d a0 a1 m h Q) : zcal WP (d + 1) n_Mo_count [.inr (.inr a0), .inl a1] m h Q := zcal_mk rfl H

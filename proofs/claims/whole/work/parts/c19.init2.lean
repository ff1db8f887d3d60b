/-! THE CONSTRUCTORS of the class (geninit.py). -/
def zW_Bk (W : List (Int × Int)) : List (Int × Int) := (2, 8) :: (2, 7) :: (2, 5) :: (2, 4) :: (2, 1) :: (2, 0) :: W
set_option maxHeartbeats 4000000 in
theorem cB_Bk {d N : Nat} {xs : Nat → Int32} {W : List (Int × Int)} {m : zM} {h : zH} {P : zM → zH → Prop} (B0 : zB N xs 2 W m h) (K : ∀ m' h', zB N xs 8 (zW_Bk W) m' h' → P m' h') : zcal WP (d + 1) n_Bk_init [.inr (.inr 2)] m h (zk0 P) := by
  apply e_Bk_init
  apply s_Bk_init_0
  have x_h : nx h = 3 := B0.1
  refine ⟨by decide, by decide, by decide, fun m1 h1 e f => ?_⟩
  have B1 : zB N xs 3 _ m1 h1 := zB_al B0 e f (by decide) (by decide) (by decide +kernel)
  clear e f
  have x_h1 : nx h1 = 4 := B1.1
  refine ⟨(B1.2.2.1 2 (by decide) (by decide)).1, by decide, fun m2 e => ?_⟩
  have B2 := zB_wr B1 e (by decide) (by rw [x_h]; decide +kernel)
  clear e
  refine ⟨by decide, by decide, fun m3 h3 e f => ?_⟩
  have B3 : zB N xs 4 _ m3 h3 := zB_al B2 e f (by decide) (by decide) (by decide +kernel)
  clear e f
  have x_h3 : nx h3 = 5 := B3.1
  refine ⟨(B3.2.2.1 2 (by decide) (by decide)).1, by decide, fun m4 e => ?_⟩
  have B4 := zB_wr B3 e (by decide) (by rw [x_h1]; decide +kernel)
  clear e
  refine ⟨by decide, by decide, fun m5 h5 e f => ?_⟩
  have B5 : zB N xs 5 _ m5 h5 := zB_al B4 e f (by decide) (by decide) (by decide +kernel)
  clear e f
  have x_h5 : nx h5 = 6 := B5.1
  refine ⟨(B5.2.2.1 2 (by decide) (by decide)).1, by decide, fun m6 e => ?_⟩
  have B6 := zB_wr B5 e (by decide) (by rw [x_h3]; decide +kernel)
  clear e
  refine ⟨by decide, by decide, fun m7 h7 e f => ?_⟩
  have B7 : zB N xs 6 _ m7 h7 := zB_al B6 e f (by decide) (by decide) (by decide +kernel)
  clear e f
  have x_h7 : nx h7 = 7 := B7.1
  refine ⟨(B7.2.2.1 2 (by decide) (by decide)).1, by decide, fun m8 e => ?_⟩
  have B8 := zB_wr B7 e (by decide) (by rw [x_h5]; decide +kernel)
  clear e
  refine ⟨by decide, by decide, fun m9 h9 e f => ?_⟩
  have B9 : zB N xs 7 _ m9 h9 := zB_al B8 e f (by decide) (by decide) (by decide +kernel)
  clear e f
  have x_h9 : nx h9 = 8 := B9.1
  refine ⟨(B9.2.2.1 2 (by decide) (by decide)).1, by decide, fun m10 e => ?_⟩
  have B10 := zB_wr B9 e (by decide) (by rw [x_h7]; decide +kernel)
  clear e
  refine ⟨by decide, by decide, fun m11 h11 e f => ?_⟩
  have B11 : zB N xs 8 _ m11 h11 := zB_al B10 e f (by decide) (by decide) (by decide +kernel)
  clear e f
  have x_h11 : nx h11 = 9 := B11.1
  refine ⟨(B11.2.2.1 2 (by decide) (by decide)).1, by decide, fun m12 e => ?_⟩
  have B12 := zB_wr B11 e (by decide) (by rw [x_h9]; decide +kernel)
  clear e
  exact ⟨rfl, K _ _ B12⟩
def zW_Tx (W : List (Int × Int)) : List (Int × Int) := (11, 5) :: (11, 4) :: (11, 3) :: (11, 2) :: (11, 1) :: (11, 0) :: W
set_option maxHeartbeats 4000000 in
theorem cB_Tx {d N : Nat} {xs : Nat → Int32} {W : List (Int × Int)} {m : zM} {h : zH} {P : zM → zH → Prop} (B0 : zB N xs 11 W m h) (K : ∀ m' h', zB N xs 17 (zW_Tx W) m' h' → P m' h') : zcal WP (d + 1) n_Tx_init [.inr (.inr 11)] m h (zk0 P) := by
  apply e_Tx_init
  apply s_Tx_init_0
  have x_h : nx h = 12 := B0.1
  refine ⟨by decide, by decide, by decide, fun m1 h1 e f => ?_⟩
  have B1 : zB N xs 12 _ m1 h1 := zB_al B0 e f (by decide) (by decide) (by decide +kernel)
  clear e f
  have x_h1 : nx h1 = 13 := B1.1
  refine ⟨(B1.2.2.1 11 (by decide) (by decide)).1, by decide, fun m2 e => ?_⟩
  have B2 := zB_wr B1 e (by decide) (by rw [x_h]; decide +kernel)
  clear e
  refine ⟨by decide, by decide, fun m3 h3 e f => ?_⟩
  have B3 : zB N xs 13 _ m3 h3 := zB_al B2 e f (by decide) (by decide) (by decide +kernel)
  clear e f
  have x_h3 : nx h3 = 14 := B3.1
  refine ⟨(B3.2.2.1 11 (by decide) (by decide)).1, by decide, fun m4 e => ?_⟩
  have B4 := zB_wr B3 e (by decide) (by rw [x_h1]; decide +kernel)
  clear e
  refine ⟨by decide, by decide, fun m5 h5 e f => ?_⟩
  have B5 : zB N xs 14 _ m5 h5 := zB_al B4 e f (by decide) (by decide) (by decide +kernel)
  clear e f
  have x_h5 : nx h5 = 15 := B5.1
  refine ⟨(B5.2.2.1 11 (by decide) (by decide)).1, by decide, fun m6 e => ?_⟩
  have B6 := zB_wr B5 e (by decide) (by rw [x_h3]; decide +kernel)
  clear e
  refine ⟨by decide, by decide, fun m7 h7 e f => ?_⟩
  have B7 : zB N xs 15 _ m7 h7 := zB_al B6 e f (by decide) (by decide) (by decide +kernel)
  clear e f
  have x_h7 : nx h7 = 16 := B7.1
  refine ⟨(B7.2.2.1 11 (by decide) (by decide)).1, by decide, fun m8 e => ?_⟩
  have B8 := zB_wr B7 e (by decide) (by rw [x_h5]; decide +kernel)
  clear e
  refine ⟨by decide, by decide, fun m9 h9 e f => ?_⟩
  have B9 : zB N xs 16 _ m9 h9 := zB_al B8 e f (by decide) (by decide) (by decide +kernel)
  clear e f
  have x_h9 : nx h9 = 17 := B9.1
  refine ⟨(B9.2.2.1 11 (by decide) (by decide)).1, by decide, fun m10 e => ?_⟩
  have B10 := zB_wr B9 e (by decide) (by rw [x_h7]; decide +kernel)
  clear e
  refine ⟨by decide, by decide, fun m11 h11 e f => ?_⟩
  have B11 : zB N xs 17 _ m11 h11 := zB_al B10 e f (by decide) (by decide) (by decide +kernel)
  clear e f
  have x_h11 : nx h11 = 18 := B11.1
  refine ⟨(B11.2.2.1 11 (by decide) (by decide)).1, by decide, fun m12 e => ?_⟩
  have B12 := zB_wr B11 e (by decide) (by rw [x_h9]; decide +kernel)
  clear e
  exact ⟨rfl, K _ _ B12⟩
def zW_Rd (W : List (Int × Int)) : List (Int × Int) := (9, 4) :: (9, 3) :: (zW_Tx ((9, 2) :: (9, 0) :: W))
set_option maxHeartbeats 4000000 in
theorem cB_Rd {d N : Nat} {xs : Nat → Int32} {W : List (Int × Int)} {m : zM} {h : zH} {P : zM → zH → Prop} (B0 : zB N xs 9 W m h) (K : ∀ m' h', zB N xs 18 (zW_Rd W) m' h' → P m' h') : zcal WP (d + 2) n_Rd_init [.inr (.inr 9)] m h (zk0 P) := by
  apply e_Rd_init
  apply s_Rd_init_0
  have x_h : nx h = 10 := B0.1
  refine ⟨by decide, by decide, by decide, fun m1 h1 e f => ?_⟩
  have B1 : zB N xs 10 _ m1 h1 := zB_al B0 e f (by decide) (by decide) (by decide +kernel)
  clear e f
  have x_h1 : nx h1 = 11 := B1.1
  refine ⟨(B1.2.2.1 9 (by decide) (by decide)).1, by decide, fun m2 e => ?_⟩
  have B2 := zB_wr B1 e (by decide) (by rw [x_h]; decide +kernel)
  clear e
  refine ⟨(B2.2.2.1 9 (by decide) (by decide)).1, by decide, fun m3 e => ?_⟩
  have B3 := zB_wr B2 e (by decide) (by decide +kernel)
  clear e
  refine (fun m4 h4 e f => ?_)
  have B4 : zB N xs 11 _ m4 h4 := zB_al B3 e f (by decide) (by decide) (by decide +kernel)
  clear e f
  have x_h4 : nx h4 = 12 := B4.1
  rw [x_h1]
  refine ⟨(B4.2.2.1 11 (by decide) (by decide)).1, cB_Tx B4 fun m5 h5 K => ?_⟩
  have B5 := K
  clear K
  have x_h5 : nx h5 = 18 := B5.1
  refine ⟨(B5.2.2.1 9 (by decide) (by decide)).1, by decide, fun m6 e => ?_⟩
  have B6 := zB_wr B5 e (by decide) (by decide +kernel)
  clear e
  refine ⟨by decide, by decide, fun m7 h7 e f => ?_⟩
  have B7 : zB N xs 18 _ m7 h7 := zB_al B6 e f (by decide) (by decide) (by decide +kernel)
  clear e f
  have x_h7 : nx h7 = 19 := B7.1
  refine ⟨(B7.2.2.1 9 (by decide) (by decide)).1, by decide, fun m8 e => ?_⟩
  have B8 := zB_wr B7 e (by decide) (by rw [x_h5]; decide +kernel)
  clear e
  exact ⟨rfl, K _ _ B8⟩
def zW_Bd (W : List (Int × Int)) : List (Int × Int) := (zye 20 25 ++ ((19, 10) :: (19, 17) :: (19, 14) :: (19, 13) :: (19, 11) :: (19, 8) :: (19, 6) :: (19, 4) :: (19, 2) :: (19, 1) :: W))
set_option maxHeartbeats 4000000 in
theorem cB_Bd {d N : Nat} {xs : Nat → Int32} {W : List (Int × Int)} {m : zM} {h : zH} {P : zM → zH → Prop} (B0 : zB N xs 19 W m h) (K : ∀ m' h', zB N xs 27 (zW_Bd W) m' h' → P m' h') : zcal WP (d + 1) n_Bd_init [.inr (.inr 19), .inr (.inr 2)] m h (zk0 P) := by
  apply e_Bd_init
  apply s_Bd_init_0
  have x_h : nx h = 20 := B0.1
  refine ⟨by decide, by decide, by decide, fun m1 h1 e f => ?_⟩
  have B1 : zB N xs 20 _ m1 h1 := zB_al B0 e f (by decide) (by decide) (by decide +kernel)
  clear e f
  have x_h1 : nx h1 = 21 := B1.1
  refine ⟨(B1.2.2.1 19 (by decide) (by decide)).1, by decide, fun m2 e => ?_⟩
  have B2 := zB_wr B1 e (by decide) (by rw [x_h]; decide +kernel)
  clear e
  refine ⟨by decide, by decide, fun m3 h3 e f => ?_⟩
  have B3 : zB N xs 21 _ m3 h3 := zB_al B2 e f (by decide) (by decide) (by decide +kernel)
  clear e f
  have x_h3 : nx h3 = 22 := B3.1
  refine ⟨(B3.2.2.1 19 (by decide) (by decide)).1, by decide, fun m4 e => ?_⟩
  have B4 := zB_wr B3 e (by decide) (by rw [x_h1]; decide +kernel)
  clear e
  refine ⟨by decide, by decide, fun m5 h5 e f => ?_⟩
  have B5 : zB N xs 22 _ m5 h5 := zB_al B4 e f (by decide) (by decide) (by decide +kernel)
  clear e f
  have x_h5 : nx h5 = 23 := B5.1
  refine ⟨(B5.2.2.1 19 (by decide) (by decide)).1, by decide, fun m6 e => ?_⟩
  have B6 := zB_wr B5 e (by decide) (by rw [x_h3]; decide +kernel)
  clear e
  refine ⟨by decide, by decide, fun m7 h7 e f => ?_⟩
  have B7 : zB N xs 23 _ m7 h7 := zB_al B6 e f (by decide) (by decide) (by decide +kernel)
  clear e f
  have x_h7 : nx h7 = 24 := B7.1
  refine ⟨(B7.2.2.1 19 (by decide) (by decide)).1, by decide, fun m8 e => ?_⟩
  have B8 := zB_wr B7 e (by decide) (by rw [x_h5]; decide +kernel)
  clear e
  refine ⟨by decide, by decide, fun m9 h9 e f => ?_⟩
  have B9 : zB N xs 24 _ m9 h9 := zB_al B8 e f (by decide) (by decide) (by decide +kernel)
  clear e f
  have x_h9 : nx h9 = 25 := B9.1
  refine ⟨(B9.2.2.1 19 (by decide) (by decide)).1, by decide, fun m10 e => ?_⟩
  have B10 := zB_wr B9 e (by decide) (by rw [x_h7]; decide +kernel)
  clear e
  refine ⟨by decide, by decide, fun m11 h11 e f => ?_⟩
  have B11 : zB N xs 25 _ m11 h11 := zB_al B10 e f (by decide) (by decide) (by decide +kernel)
  clear e f
  have x_h11 : nx h11 = 26 := B11.1
  refine ⟨(B11.2.2.1 19 (by decide) (by decide)).1, by decide, fun m12 e => ?_⟩
  have B12 := zB_wr B11 e (by decide) (by rw [x_h9]; decide +kernel)
  clear e
  refine ⟨by decide, by decide, fun m13 h13 e f => ?_⟩
  have B13 : zB N xs 26 _ m13 h13 := zB_al B12 e f (by decide) (by decide) (by decide +kernel)
  clear e f
  have x_h13 : nx h13 = 27 := B13.1
  refine ⟨(B13.2.2.1 19 (by decide) (by decide)).1, by decide, fun m14 e => ?_⟩
  have B14 := zB_wr B13 e (by decide) (by rw [x_h11]; decide +kernel)
  clear e
  refine ⟨by decide, by decide, fun m15 h15 e f => ?_⟩
  have B15 : zB N xs 27 _ m15 h15 := zB_al B14 e f (by decide) (by decide) (by decide +kernel)
  clear e f
  have x_h15 : nx h15 = 28 := B15.1
  refine ⟨(B15.2.2.1 19 (by decide) (by decide)).1, by decide, fun m16 e => ?_⟩
  have B16 := zB_wr B15 e (by decide) (by rw [x_h13]; decide +kernel)
  clear e
  refine ⟨(B16.2.2.1 19 (by decide) (by decide)).1, by decide, fun m17 e => ?_⟩
  have B17 := zB_wr B16 e (by decide) (by decide +kernel)
  clear e
  refine ⟨(B17.2.2.1 19 (by decide) (by decide)).1, by decide, fun m18 e => ?_⟩
  have B18 := zB_wr B17 e (by decide) (by decide +kernel)
  clear e
  skip
  exact u_Bd_init B18 (by simp) fun m' B' => ⟨rfl, K _ _ B'⟩
def zW_Du (W : List (Int × Int)) : List (Int × Int) := (zye 29 12 ++ ((28, 7) :: (28, 6) :: (28, 5) :: (28, 4) :: (28, 2) :: (28, 1) :: (28, 0) :: W))
set_option maxHeartbeats 4000000 in
theorem cB_Du {d N : Nat} {xs : Nat → Int32} {W : List (Int × Int)} {m : zM} {h : zH} {P : zM → zH → Prop} (B0 : zB N xs 28 W m h) (K : ∀ m' h', zB N xs 34 (zW_Du W) m' h' → P m' h') : zcal WP (d + 2) n_Du_init [.inr (.inr 28)] m h (zk0 P) := by
  apply e_Du_init
  apply s_Du_init_0
  have x_h : nx h = 29 := B0.1
  refine ⟨by decide, by decide, by decide, fun m1 h1 e f => ?_⟩
  have B1 : zB N xs 29 _ m1 h1 := zB_al B0 e f (by decide) (by decide) (by decide +kernel)
  clear e f
  have x_h1 : nx h1 = 30 := B1.1
  refine ⟨(B1.2.2.1 28 (by decide) (by decide)).1, by decide, fun m2 e => ?_⟩
  have B2 := zB_wr B1 e (by decide) (by rw [x_h]; decide +kernel)
  clear e
  refine ⟨(B2.2.2.1 28 (by decide) (by decide)).1, by decide, fun m3 e => ?_⟩
  have B3 := zB_wr B2 e (by decide) (by decide +kernel)
  clear e
  refine ⟨by decide, by decide, fun m4 h4 e f => ?_⟩
  have B4 : zB N xs 30 _ m4 h4 := zB_al B3 e f (by decide) (by decide) (by decide +kernel)
  clear e f
  have x_h4 : nx h4 = 31 := B4.1
  refine ⟨(B4.2.2.1 28 (by decide) (by decide)).1, by decide, fun m5 e => ?_⟩
  have B5 := zB_wr B4 e (by decide) (by rw [x_h1]; decide +kernel)
  clear e
  refine ⟨by decide, by decide, fun m6 h6 e f => ?_⟩
  have B6 : zB N xs 31 _ m6 h6 := zB_al B5 e f (by decide) (by decide) (by decide +kernel)
  clear e f
  have x_h6 : nx h6 = 32 := B6.1
  refine ⟨(B6.2.2.1 28 (by decide) (by decide)).1, by decide, fun m7 e => ?_⟩
  have B7 := zB_wr B6 e (by decide) (by rw [x_h4]; decide +kernel)
  clear e
  refine ⟨by decide, by decide, fun m8 h8 e f => ?_⟩
  have B8 : zB N xs 32 _ m8 h8 := zB_al B7 e f (by decide) (by decide) (by decide +kernel)
  clear e f
  have x_h8 : nx h8 = 33 := B8.1
  refine ⟨(B8.2.2.1 28 (by decide) (by decide)).1, by decide, fun m9 e => ?_⟩
  have B9 := zB_wr B8 e (by decide) (by rw [x_h6]; decide +kernel)
  clear e
  refine ⟨by decide, by decide, fun m10 h10 e f => ?_⟩
  have B10 : zB N xs 33 _ m10 h10 := zB_al B9 e f (by decide) (by decide) (by decide +kernel)
  clear e f
  have x_h10 : nx h10 = 34 := B10.1
  refine ⟨(B10.2.2.1 28 (by decide) (by decide)).1, by decide, fun m11 e => ?_⟩
  have B11 := zB_wr B10 e (by decide) (by rw [x_h8]; decide +kernel)
  clear e
  refine ⟨by decide, by decide, fun m12 h12 e f => ?_⟩
  have B12 : zB N xs 34 _ m12 h12 := zB_al B11 e f (by decide) (by decide) (by decide +kernel)
  clear e f
  have x_h12 : nx h12 = 35 := B12.1
  refine ⟨(B12.2.2.1 28 (by decide) (by decide)).1, by decide, fun m13 e => ?_⟩
  have B13 := zB_wr B12 e (by decide) (by rw [x_h10]; decide +kernel)
  clear e
  rw [show m13 28 0 = 29 from (zB_rd B13 (by decide) (by decide) (by decide) (by simp)).trans (by decide +kernel)]
  refine ⟨(B13.2.2.1 28 (by decide) (by decide)).1, c_Jn_fill (n := 12) (B13.2.2.1 29 (by decide) (by decide)).1 (by decide) (B13.2.2.1 29 (by decide) (by decide)).2 (by decide) fun m14 w v => ?_⟩
  have B14 := zB_fl B13 29 12 (by decide) w (fun j j0 j1 => (v j j0 j1).trans (zyG_29 j j0 j1).symm)
  clear w v
  exact ⟨rfl, K _ _ B14⟩
def zW_St (W : List (Int × Int)) : List (Int × Int) := (zye 36 9 ++ ((35, 8) :: (35, 7) :: (35, 6) :: (35, 5) :: (35, 4) :: (35, 3) :: (35, 2) :: W))
set_option maxHeartbeats 4000000 in
theorem cB_St {d N : Nat} {xs : Nat → Int32} {W : List (Int × Int)} {m : zM} {h : zH} {P : zM → zH → Prop} (B0 : zB N xs 35 W m h) (K : ∀ m' h', zB N xs 42 (zW_St W) m' h' → P m' h') : zcal WP (d + 2) n_St_init [.inr (.inr 35)] m h (zk0 P) := by
  apply e_St_init
  apply s_St_init_0
  have x_h : nx h = 36 := B0.1
  refine ⟨by decide, by decide, by decide, fun m1 h1 e f => ?_⟩
  have B1 : zB N xs 36 _ m1 h1 := zB_al B0 e f (by decide) (by decide) (by decide +kernel)
  clear e f
  have x_h1 : nx h1 = 37 := B1.1
  refine ⟨(B1.2.2.1 35 (by decide) (by decide)).1, by decide, fun m2 e => ?_⟩
  have B2 := zB_wr B1 e (by decide) (by rw [x_h]; decide +kernel)
  clear e
  refine ⟨by decide, by decide, fun m3 h3 e f => ?_⟩
  have B3 : zB N xs 37 _ m3 h3 := zB_al B2 e f (by decide) (by decide) (by decide +kernel)
  clear e f
  have x_h3 : nx h3 = 38 := B3.1
  refine ⟨(B3.2.2.1 35 (by decide) (by decide)).1, by decide, fun m4 e => ?_⟩
  have B4 := zB_wr B3 e (by decide) (by rw [x_h1]; decide +kernel)
  clear e
  refine ⟨by decide, by decide, fun m5 h5 e f => ?_⟩
  have B5 : zB N xs 38 _ m5 h5 := zB_al B4 e f (by decide) (by decide) (by decide +kernel)
  clear e f
  have x_h5 : nx h5 = 39 := B5.1
  refine ⟨(B5.2.2.1 35 (by decide) (by decide)).1, by decide, fun m6 e => ?_⟩
  have B6 := zB_wr B5 e (by decide) (by rw [x_h3]; decide +kernel)
  clear e
  refine ⟨by decide, by decide, fun m7 h7 e f => ?_⟩
  have B7 : zB N xs 39 _ m7 h7 := zB_al B6 e f (by decide) (by decide) (by decide +kernel)
  clear e f
  have x_h7 : nx h7 = 40 := B7.1
  refine ⟨(B7.2.2.1 35 (by decide) (by decide)).1, by decide, fun m8 e => ?_⟩
  have B8 := zB_wr B7 e (by decide) (by rw [x_h5]; decide +kernel)
  clear e
  refine ⟨by decide, by decide, fun m9 h9 e f => ?_⟩
  have B9 : zB N xs 40 _ m9 h9 := zB_al B8 e f (by decide) (by decide) (by decide +kernel)
  clear e f
  have x_h9 : nx h9 = 41 := B9.1
  refine ⟨(B9.2.2.1 35 (by decide) (by decide)).1, by decide, fun m10 e => ?_⟩
  have B10 := zB_wr B9 e (by decide) (by rw [x_h7]; decide +kernel)
  clear e
  refine ⟨by decide, by decide, fun m11 h11 e f => ?_⟩
  have B11 : zB N xs 41 _ m11 h11 := zB_al B10 e f (by decide) (by decide) (by decide +kernel)
  clear e f
  have x_h11 : nx h11 = 42 := B11.1
  refine ⟨(B11.2.2.1 35 (by decide) (by decide)).1, by decide, fun m12 e => ?_⟩
  have B12 := zB_wr B11 e (by decide) (by rw [x_h9]; decide +kernel)
  clear e
  refine ⟨by decide, by decide, fun m13 h13 e f => ?_⟩
  have B13 : zB N xs 42 _ m13 h13 := zB_al B12 e f (by decide) (by decide) (by decide +kernel)
  clear e f
  have x_h13 : nx h13 = 43 := B13.1
  refine ⟨(B13.2.2.1 35 (by decide) (by decide)).1, by decide, fun m14 e => ?_⟩
  have B14 := zB_wr B13 e (by decide) (by rw [x_h11]; decide +kernel)
  clear e
  rw [show m14 35 2 = 36 from (zB_rd B14 (by decide) (by decide) (by decide) (by simp)).trans (by decide +kernel)]
  refine ⟨(B14.2.2.1 35 (by decide) (by decide)).1, c_Jn_fill (n := 9) (B14.2.2.1 36 (by decide) (by decide)).1 (by decide) (B14.2.2.1 36 (by decide) (by decide)).2 (by decide) fun m15 w v => ?_⟩
  have B15 := zB_fl B14 36 9 (by decide) w (fun j j0 j1 => (v j j0 j1).trans (zyG_36 j j0 j1).symm)
  clear w v
  exact ⟨rfl, K _ _ B15⟩
def zW_Cd (W : List (Int × Int)) : List (Int × Int) := (zye 45 9 ++ ((43, 9) :: (43, 8) :: (43, 7) :: (43, 6) :: (43, 4) :: (43, 2) :: (43, 1) :: (43, 0) :: W))
set_option maxHeartbeats 4000000 in
theorem cB_Cd {d N : Nat} {xs : Nat → Int32} {W : List (Int × Int)} {m : zM} {h : zH} {P : zM → zH → Prop} (B0 : zB N xs 43 W m h) (K : ∀ m' h', zB N xs 51 (zW_Cd W) m' h' → P m' h') : zcal WP (d + 2) n_Cd_init [.inr (.inr 43)] m h (zk0 P) := by
  apply e_Cd_init
  apply s_Cd_init_0
  have x_h : nx h = 44 := B0.1
  refine ⟨by decide, by decide, by decide, fun m1 h1 e f => ?_⟩
  have B1 : zB N xs 44 _ m1 h1 := zB_al B0 e f (by decide) (by decide) (by decide +kernel)
  clear e f
  have x_h1 : nx h1 = 45 := B1.1
  refine ⟨(B1.2.2.1 43 (by decide) (by decide)).1, by decide, fun m2 e => ?_⟩
  have B2 := zB_wr B1 e (by decide) (by rw [x_h]; decide +kernel)
  clear e
  refine ⟨by decide, by decide, fun m3 h3 e f => ?_⟩
  have B3 : zB N xs 45 _ m3 h3 := zB_al B2 e f (by decide) (by decide) (by decide +kernel)
  clear e f
  have x_h3 : nx h3 = 46 := B3.1
  refine ⟨(B3.2.2.1 43 (by decide) (by decide)).1, by decide, fun m4 e => ?_⟩
  have B4 := zB_wr B3 e (by decide) (by rw [x_h1]; decide +kernel)
  clear e
  refine ⟨by decide, by decide, fun m5 h5 e f => ?_⟩
  have B5 : zB N xs 46 _ m5 h5 := zB_al B4 e f (by decide) (by decide) (by decide +kernel)
  clear e f
  have x_h5 : nx h5 = 47 := B5.1
  refine ⟨(B5.2.2.1 43 (by decide) (by decide)).1, by decide, fun m6 e => ?_⟩
  have B6 := zB_wr B5 e (by decide) (by rw [x_h3]; decide +kernel)
  clear e
  refine ⟨by decide, by decide, fun m7 h7 e f => ?_⟩
  have B7 : zB N xs 47 _ m7 h7 := zB_al B6 e f (by decide) (by decide) (by decide +kernel)
  clear e f
  have x_h7 : nx h7 = 48 := B7.1
  refine ⟨(B7.2.2.1 43 (by decide) (by decide)).1, by decide, fun m8 e => ?_⟩
  have B8 := zB_wr B7 e (by decide) (by rw [x_h5]; decide +kernel)
  clear e
  refine ⟨by decide, by decide, fun m9 h9 e f => ?_⟩
  have B9 : zB N xs 48 _ m9 h9 := zB_al B8 e f (by decide) (by decide) (by decide +kernel)
  clear e f
  have x_h9 : nx h9 = 49 := B9.1
  refine ⟨(B9.2.2.1 43 (by decide) (by decide)).1, by decide, fun m10 e => ?_⟩
  have B10 := zB_wr B9 e (by decide) (by rw [x_h7]; decide +kernel)
  clear e
  refine ⟨by decide, by decide, fun m11 h11 e f => ?_⟩
  have B11 : zB N xs 49 _ m11 h11 := zB_al B10 e f (by decide) (by decide) (by decide +kernel)
  clear e f
  have x_h11 : nx h11 = 50 := B11.1
  refine ⟨(B11.2.2.1 43 (by decide) (by decide)).1, by decide, fun m12 e => ?_⟩
  have B12 := zB_wr B11 e (by decide) (by rw [x_h9]; decide +kernel)
  clear e
  refine ⟨by decide, by decide, fun m13 h13 e f => ?_⟩
  have B13 : zB N xs 50 _ m13 h13 := zB_al B12 e f (by decide) (by decide) (by decide +kernel)
  clear e f
  have x_h13 : nx h13 = 51 := B13.1
  refine ⟨(B13.2.2.1 43 (by decide) (by decide)).1, by decide, fun m14 e => ?_⟩
  have B14 := zB_wr B13 e (by decide) (by rw [x_h11]; decide +kernel)
  clear e
  refine ⟨by decide, by decide, fun m15 h15 e f => ?_⟩
  have B15 : zB N xs 51 _ m15 h15 := zB_al B14 e f (by decide) (by decide) (by decide +kernel)
  clear e f
  have x_h15 : nx h15 = 52 := B15.1
  refine ⟨(B15.2.2.1 43 (by decide) (by decide)).1, by decide, fun m16 e => ?_⟩
  have B16 := zB_wr B15 e (by decide) (by rw [x_h13]; decide +kernel)
  clear e
  rw [show m16 43 1 = 45 from (zB_rd B16 (by decide) (by decide) (by decide) (by simp)).trans (by decide +kernel)]
  refine ⟨(B16.2.2.1 43 (by decide) (by decide)).1, c_Jn_fill (n := 9) (B16.2.2.1 45 (by decide) (by decide)).1 (by decide) (B16.2.2.1 45 (by decide) (by decide)).2 (by decide) fun m17 w v => ?_⟩
  have B17 := zB_fl B16 45 9 (by decide) w (fun j j0 j1 => (v j j0 j1).trans (zyG_45 j j0 j1).symm)
  clear w v
  exact ⟨rfl, K _ _ B17⟩
def zW_Bl (W : List (Int × Int)) : List (Int × Int) := (52, 1) :: W
set_option maxHeartbeats 4000000 in
theorem cB_Bl {d N : Nat} {xs : Nat → Int32} {W : List (Int × Int)} {m : zM} {h : zH} {P : zM → zH → Prop} (B0 : zB N xs 52 W m h) (K : ∀ m' h', zB N xs 53 (zW_Bl W) m' h' → P m' h') : zcal WP (d + 1) n_Bl_init [.inr (.inr 52)] m h (zk0 P) := by
  apply e_Bl_init
  apply s_Bl_init_0
  have x_h : nx h = 53 := B0.1
  refine ⟨by decide, by decide, by decide, fun m1 h1 e f => ?_⟩
  have B1 : zB N xs 53 _ m1 h1 := zB_al B0 e f (by decide) (by decide) (by decide +kernel)
  clear e f
  have x_h1 : nx h1 = 54 := B1.1
  refine ⟨(B1.2.2.1 52 (by decide) (by decide)).1, by decide, fun m2 e => ?_⟩
  have B2 := zB_wr B1 e (by decide) (by rw [x_h]; decide +kernel)
  clear e
  exact ⟨rfl, K _ _ B2⟩
def zW_Es : List (Int × Int) := (1, 6) :: (zW_Bl ((1, 5) :: (zW_Cd ((1, 4) :: (zW_St ((1, 3) :: (zW_Du ((1, 2) :: (zW_Bd ((1, 1) :: (zW_Rd ((1, 0) :: (zW_Bk ([]))))))))))))))
set_option maxHeartbeats 4000000 in
theorem cB_Es {d N : Nat} {xs : Nat → Int32} {m : zM} {h : zH} {P : zM → zH → Prop} (B0 : zB N xs 1 [] m h) (K : ∀ m' h', zB N xs 53 zW_Es m' h' → P m' h') : zcal WP (d + 5) n_Es_init [.inr (.inr 1)] m h (zk0 P) := by
  apply e_Es_init
  apply s_Es_init_0
  have x_h : nx h = 2 := B0.1
  refine ⟨by decide, fun m1 h1 e f => ?_⟩
  have B1 : zB N xs 2 _ m1 h1 := zB_al B0 e f (by decide) (by decide) (by decide +kernel)
  clear e f
  have x_h1 : nx h1 = 3 := B1.1
  rw [x_h]
  refine ⟨(B1.2.2.1 2 (by decide) (by decide)).1, cB_Bk B1 fun m2 h2 K => ?_⟩
  have B2 := K
  clear K
  have x_h2 : nx h2 = 9 := B2.1
  refine ⟨(B2.2.2.1 1 (by decide) (by decide)).1, by decide, fun m3 e => ?_⟩
  have B3 := zB_wr B2 e (by decide) (by decide +kernel)
  clear e
  refine (fun m4 h4 e f => ?_)
  have B4 : zB N xs 9 _ m4 h4 := zB_al B3 e f (by decide) (by decide) (by decide +kernel)
  clear e f
  have x_h4 : nx h4 = 10 := B4.1
  rw [x_h2]
  refine ⟨(B4.2.2.1 9 (by decide) (by decide)).1, cB_Rd B4 fun m5 h5 K => ?_⟩
  have B5 := K
  clear K
  have x_h5 : nx h5 = 19 := B5.1
  refine ⟨(B5.2.2.1 1 (by decide) (by decide)).1, by decide, fun m6 e => ?_⟩
  have B6 := zB_wr B5 e (by decide) (by decide +kernel)
  clear e
  refine (fun m7 h7 e f => ?_)
  have B7 : zB N xs 19 _ m7 h7 := zB_al B6 e f (by decide) (by decide) (by decide +kernel)
  clear e f
  have x_h7 : nx h7 = 20 := B7.1
  rw [x_h5]
  rw [show m7 1 0 = 2 from (zB_rd B7 (by decide) (by decide) (by decide) (by decide)).trans (by decide +kernel)]
  refine ⟨(B7.2.2.1 1 (by decide) (by decide)).1, (B7.2.2.1 19 (by decide) (by decide)).1, cB_Bd B7 fun m8 h8 K => ?_⟩
  have B8 := K
  clear K
  have x_h8 : nx h8 = 28 := B8.1
  refine ⟨(B8.2.2.1 1 (by decide) (by decide)).1, by decide, fun m9 e => ?_⟩
  have B9 := zB_wr B8 e (by decide) (by decide +kernel)
  clear e
  refine (fun m10 h10 e f => ?_)
  have B10 : zB N xs 28 _ m10 h10 := zB_al B9 e f (by decide) (by decide) (by decide +kernel)
  clear e f
  have x_h10 : nx h10 = 29 := B10.1
  rw [x_h8]
  refine ⟨(B10.2.2.1 28 (by decide) (by decide)).1, cB_Du B10 fun m11 h11 K => ?_⟩
  have B11 := K
  clear K
  have x_h11 : nx h11 = 35 := B11.1
  refine ⟨(B11.2.2.1 1 (by decide) (by decide)).1, by decide, fun m12 e => ?_⟩
  have B12 := zB_wr B11 e (by decide) (by decide +kernel)
  clear e
  refine (fun m13 h13 e f => ?_)
  have B13 : zB N xs 35 _ m13 h13 := zB_al B12 e f (by decide) (by decide) (by decide +kernel)
  clear e f
  have x_h13 : nx h13 = 36 := B13.1
  rw [x_h11]
  refine ⟨(B13.2.2.1 35 (by decide) (by decide)).1, cB_St B13 fun m14 h14 K => ?_⟩
  have B14 := K
  clear K
  have x_h14 : nx h14 = 43 := B14.1
  refine ⟨(B14.2.2.1 1 (by decide) (by decide)).1, by decide, fun m15 e => ?_⟩
  have B15 := zB_wr B14 e (by decide) (by decide +kernel)
  clear e
  refine (fun m16 h16 e f => ?_)
  have B16 : zB N xs 43 _ m16 h16 := zB_al B15 e f (by decide) (by decide) (by decide +kernel)
  clear e f
  have x_h16 : nx h16 = 44 := B16.1
  rw [x_h14]
  refine ⟨(B16.2.2.1 43 (by decide) (by decide)).1, cB_Cd B16 fun m17 h17 K => ?_⟩
  have B17 := K
  clear K
  have x_h17 : nx h17 = 52 := B17.1
  refine ⟨(B17.2.2.1 1 (by decide) (by decide)).1, by decide, fun m18 e => ?_⟩
  have B18 := zB_wr B17 e (by decide) (by decide +kernel)
  clear e
  refine (fun m19 h19 e f => ?_)
  have B19 : zB N xs 52 _ m19 h19 := zB_al B18 e f (by decide) (by decide) (by decide +kernel)
  clear e f
  have x_h19 : nx h19 = 53 := B19.1
  rw [x_h17]
  refine ⟨(B19.2.2.1 52 (by decide) (by decide)).1, cB_Bl B19 fun m20 h20 K => ?_⟩
  have B20 := K
  clear K
  have x_h20 : nx h20 = 54 := B20.1
  refine ⟨(B20.2.2.1 1 (by decide) (by decide)).1, by decide, fun m21 e => ?_⟩
  have B21 := zB_wr B20 e (by decide) (by decide +kernel)
  clear e
  exact ⟨rfl, K _ _ B21⟩

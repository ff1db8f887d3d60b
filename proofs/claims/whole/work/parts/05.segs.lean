def zm_Es_init : Nat → Option (List Bool) := fun pc => none
abbrev q_Es_init_0 (d : Nat) (a0 : Int) (m : zM) (h : zH) (Q : zQ) : Prop := WP d n_Es_init 0 [some (.inr (.inr a0))] [] m h Q
set_option maxRecDepth 100000 in
set_option maxHeartbeats 8000000 in
theorem s_Es_init_0 (d : Nat) (a0 : Int) (m : zM) (h : zH) (Q : zQ) (H :
  0 < a0 ∧ ∀ m1 h1, m1 = znm m h → h1 = znh h 3 0 11 →
  kd h1 (nx h) = 3 ∧ zcal WP d n_Bk_init [.inr (.inr (nx h))] m1 h1 (zk0 fun m2 h2 =>
  kd h2 a0 = 12 ∧ 0 < a0 ∧ ∀ m3, m3 = zwr m2 a0 0 (nx h) →
  ∀ m4 h4, m4 = znm m3 h2 → h4 = znh h2 8 0 16 →
  kd h4 (nx h2) = 8 ∧ zcal WP d n_Rd_init [.inr (.inr (nx h2))] m4 h4 (zk0 fun m5 h5 =>
  kd h5 a0 = 12 ∧ 0 < a0 ∧ ∀ m6, m6 = zwr m5 a0 1 (nx h2) →
  ∀ m7 h7, m7 = znm m6 h5 → h7 = znh h5 2 0 20 →
  kd h7 a0 = 12 ∧ kd h7 (nx h5) = 2 ∧ zcal WP d n_Bd_init [.inr (.inr (nx h5)), .inr (.inr (m7 a0 0))] m7 h7 (zk0 fun m8 h8 =>
  kd h8 a0 = 12 ∧ 0 < a0 ∧ ∀ m9, m9 = zwr m8 a0 2 (nx h5) →
  ∀ m10 h10, m10 = znm m9 h8 → h10 = znh h8 5 0 8 →
  kd h10 (nx h8) = 5 ∧ zcal WP d n_Du_init [.inr (.inr (nx h8))] m10 h10 (zk0 fun m11 h11 =>
  kd h11 a0 = 12 ∧ 0 < a0 ∧ ∀ m12, m12 = zwr m11 a0 3 (nx h8) →
  ∀ m13 h13, m13 = znm m12 h11 → h13 = znh h11 9 0 11 →
  kd h13 (nx h11) = 9 ∧ zcal WP d n_St_init [.inr (.inr (nx h11))] m13 h13 (zk0 fun m14 h14 =>
  kd h14 a0 = 12 ∧ 0 < a0 ∧ ∀ m15, m15 = zwr m14 a0 4 (nx h11) →
  ∀ m16 h16, m16 = znm m15 h14 → h16 = znh h14 4 0 13 →
  kd h16 (nx h14) = 4 ∧ zcal WP d n_Cd_init [.inr (.inr (nx h14))] m16 h16 (zk0 fun m17 h17 =>
  kd h17 a0 = 12 ∧ 0 < a0 ∧ ∀ m18, m18 = zwr m17 a0 5 (nx h14) →
  ∀ m19 h19, m19 = znm m18 h17 → h19 = znh h17 1 0 6 →
  kd h19 (nx h17) = 1 ∧ zcal WP d n_Bl_init [.inr (.inr (nx h17))] m19 h19 (zk0 fun m20 h20 =>
  kd h20 a0 = 12 ∧ 0 < a0 ∧ ∀ m21, m21 = zwr m20 a0 6 (nx h17) →
  Q none m21 h20)))))))) : q_Es_init_0 d a0 m h Q := zvc_ok zc_Es_init zm_Es_init 41 (fun _ => rfl) H
theorem e_Es_init (d : Nat) (a0 : Int) (m : zM) (h : zH) (Q : zQ) (H : q_Es_init_0 d a0 m h Q) : zcal WP (d + 1) n_Es_init [.inr (.inr a0)] m h Q := zcal_mk rfl H
def zm_Es_feed : Nat → Option (List Bool) := fun pc => none
abbrev q_Es_feed_0 (d : Nat) (a0 a1 a2 a3 a4 a5 : Int) (m : zM) (h : zH) (Q : zQ) : Prop := WP d n_Es_feed 0 [some (.inr (.inr a0)), some (.inl a1), some (.inl a2), some (.inl a3), some (.inl a4), some (.inl a5)] [] m h Q
set_option maxRecDepth 100000 in
set_option maxHeartbeats 8000000 in
theorem s_Es_feed_0 (d : Nat) (a0 a1 a2 a3 a4 a5 : Int) (m : zM) (h : zH) (Q : zQ) (H :
  kd h a0 = 12 ∧ kd h (m a0 1) = 8 ∧ ((w32 ((m (m a0 1) 1) + 20)) ≤ 2000 →
    kd h a0 = 12 ∧ kd h (m a0 1) = 8 ∧ zcal WP d n_Rd_append [.inr (.inr (m a0 1)), .inl a1] m h (zk0 fun m1 h1 =>
    kd h1 a0 = 12 ∧ kd h1 (m1 a0 1) = 8 ∧ zcal WP d n_Rd_append [.inr (.inr (m1 a0 1)), .inl a2] m1 h1 (zk0 fun m2 h2 =>
    kd h2 a0 = 12 ∧ kd h2 (m2 a0 1) = 8 ∧ zcal WP d n_Rd_append [.inr (.inr (m2 a0 1)), .inl a3] m2 h2 (zk0 fun m3 h3 =>
    kd h3 a0 = 12 ∧ kd h3 (m3 a0 1) = 8 ∧ zcal WP d n_Rd_append [.inr (.inr (m3 a0 1)), .inl a4] m3 h3 (zk0 fun m4 h4 =>
    kd h4 a0 = 12 ∧ kd h4 (m4 a0 1) = 8 ∧ zcal WP d n_Rd_append [.inr (.inr (m4 a0 1)), .inl a5] m4 h4 (zk0 fun m5 h5 =>
    kd h5 a0 = 12 ∧ kd h5 (m5 a0 1) = 8 ∧ Q (some (.inl (m5 (m5 a0 1) 1))) m5 h5)))))) ∧
  (¬ ((w32 ((m (m a0 1) 1) + 20)) ≤ 2000) →
    Q (some (.inl ((-1)))) m h)) : q_Es_feed_0 d a0 a1 a2 a3 a4 a5 m h Q := zvc_ok zc_Es_feed zm_Es_feed 34 (fun _ => rfl) H
theorem e_Es_feed (d : Nat) (a0 a1 a2 a3 a4 a5 : Int) (m : zM) (h : zH) (Q : zQ) (H : q_Es_feed_0 d a0 a1 a2 a3 a4 a5 m h Q) : zcal WP (d + 1) n_Es_feed [.inr (.inr a0), .inl a1, .inl a2, .inl a3, .inl a4, .inl a5] m h Q := zcal_mk rfl H
def zm_Es_back : Nat → Option (List Bool) := fun pc => none
abbrev q_Es_back_0 (d : Nat) (a0 a1 : Int) (m : zM) (h : zH) (Q : zQ) : Prop := WP d n_Es_back 0 [some (.inr (.inr a0)), some (.inl a1)] [] m h Q
set_option maxRecDepth 100000 in
set_option maxHeartbeats 8000000 in
theorem s_Es_back_0 (d : Nat) (a0 a1 : Int) (m : zM) (h : zH) (Q : zQ) (H :
  (a1 < 0 →
    Q (some (.inl ((-1)))) m h) ∧
  (¬ (a1 < 0) →
    kd h a0 = 12 ∧ kd h (m a0 1) = 8 ∧ (a1 ≤ (m (m a0 1) 1) →
      kd h a0 = 12 ∧ kd h (m a0 1) = 8 ∧ kd h (m a0 1) = 8 ∧ 0 < (m a0 1) ∧ ∀ m1, m1 = zwr m (m a0 1) 1 (w32 ((m (m a0 1) 1) - a1)) →
      kd h a0 = 12 ∧ kd h (m1 a0 1) = 8 ∧ Q (some (.inl (m1 (m1 a0 1) 1))) m1 h) ∧
    (¬ (a1 ≤ (m (m a0 1) 1)) →
      Q (some (.inl ((-1)))) m h))) : q_Es_back_0 d a0 a1 m h Q := zvc_ok zc_Es_back zm_Es_back 21 (fun _ => rfl) H
theorem e_Es_back (d : Nat) (a0 a1 : Int) (m : zM) (h : zH) (Q : zQ) (H : q_Es_back_0 d a0 a1 m h Q) : zcal WP (d + 1) n_Es_back [.inr (.inr a0), .inl a1] m h Q := zcal_mk rfl H
def zm_Es_read : Nat → Option (List Bool) := fun pc => none
abbrev q_Es_read_0 (d : Nat) (a0 : Int) (m : zM) (h : zH) (Q : zQ) : Prop := WP d n_Es_read 0 [some (.inr (.inr a0)), none] [] m h Q
set_option maxRecDepth 100000 in
set_option maxHeartbeats 8000000 in
theorem s_Es_read_0 (d : Nat) (a0 : Int) (m : zM) (h : zH) (Q : zQ) (H :
  kd h a0 = 12 ∧ kd h (m a0 0) = 3 ∧ ((m (m a0 0) 3) < 6 →
    kd h a0 = 12 ∧ kd h (m a0 1) = 8 ∧ zcal WP d n_Rd_readTape [.inr (.inr (m a0 1))] m h (zk1 fun r1 m1 h1 =>
    (r1 ≠ 0 →
      Q (some (.inl r1)) m1 h1) ∧
    (¬ (r1 ≠ 0) →
      kd h1 a0 = 12 ∧ kd h1 a0 = 12 ∧ kd h1 (m1 a0 1) = 8 ∧ zcal WP d n_Rd_handOver [.inr (.inr (m1 a0 1))] m1 h1 (zk3 fun r2 m2 h2 =>
      kd h2 (m1 a0 0) = 3 ∧ zcal WP d n_Bk_add [.inr (.inr (m1 a0 0)), .inr (.inr r2)] m2 h2 (zk0 fun m3 h3 =>
      kd h3 a0 = 12 ∧ kd h3 (m3 a0 2) = 2 ∧ zcal WP d n_Bd_forget [.inr (.inr (m3 a0 2))] m3 h3 (zk0 fun m4 h4 =>
      Q (some (.inl r1)) m4 h4)))))) ∧
  (¬ ((m (m a0 0) 3) < 6) →
    Q (some (.inl ((-2)))) m h)) : q_Es_read_0 d a0 m h Q := zvc_ok zc_Es_read zm_Es_read 25 (fun _ => rfl) H
theorem e_Es_read (d : Nat) (a0 : Int) (m : zM) (h : zH) (Q : zQ) (H : q_Es_read_0 d a0 m h Q) : zcal WP (d + 1) n_Es_read [.inr (.inr a0)] m h Q := zcal_mk rfl H
def zm_Es_place : Nat → Option (List Bool) := fun pc => none
abbrev q_Es_place_0 (d : Nat) (a0 : Int) (m : zM) (h : zH) (Q : zQ) : Prop := WP d n_Es_place 0 [some (.inr (.inr a0))] [] m h Q
set_option maxRecDepth 100000 in
set_option maxHeartbeats 8000000 in
theorem s_Es_place_0 (d : Nat) (a0 : Int) (m : zM) (h : zH) (Q : zQ) (H :
  kd h a0 = 12 ∧ kd h (m a0 1) = 8 ∧ Q (some (.inl (m (m a0 1) 2))) m h) : q_Es_place_0 d a0 m h Q := zvc_ok zc_Es_place zm_Es_place 5 (fun _ => rfl) H
theorem e_Es_place (d : Nat) (a0 : Int) (m : zM) (h : zH) (Q : zQ) (H : q_Es_place_0 d a0 m h Q) : zcal WP (d + 1) n_Es_place [.inr (.inr a0)] m h Q := zcal_mk rfl H
def zm_Es_shed : Nat → Option (List Bool) := fun pc => none
abbrev q_Es_shed_0 (d : Nat) (a0 : Int) (m : zM) (h : zH) (Q : zQ) : Prop := WP d n_Es_shed 0 [some (.inr (.inr a0))] [] m h Q
set_option maxRecDepth 100000 in
set_option maxHeartbeats 8000000 in
theorem s_Es_shed_0 (d : Nat) (a0 : Int) (m : zM) (h : zH) (Q : zQ) (H :
  kd h a0 = 12 ∧ kd h (m a0 2) = 2 ∧ ((m (m a0 2) 0) < 5 →
    kd h a0 = 12 ∧ kd h (m a0 2) = 2 ∧ kd h (m a0 2) = 2 ∧ 0 < (m a0 2) ∧ ∀ m1, m1 = zwr m (m a0 2) 0 (w32 ((m (m a0 2) 0) + 1)) →
    kd h a0 = 12 ∧ kd h (m1 a0 2) = 2 ∧ Q (some (.inl (w32 ((m1 (m1 a0 2) 0) - 1)))) m1 h) ∧
  (¬ ((m (m a0 2) 0) < 5) →
    Q (some (.inl ((-1)))) m h)) : q_Es_shed_0 d a0 m h Q := zvc_ok zc_Es_shed zm_Es_shed 21 (fun _ => rfl) H
theorem e_Es_shed (d : Nat) (a0 : Int) (m : zM) (h : zH) (Q : zQ) (H : q_Es_shed_0 d a0 m h Q) : zcal WP (d + 1) n_Es_shed [.inr (.inr a0)] m h Q := zcal_mk rfl H
def zm_Es_way : Nat → Option (List Bool) := fun pc => none
abbrev q_Es_way_0 (d : Nat) (a0 a1 a2 a3 : Int) (m : zM) (h : zH) (Q : zQ) : Prop := WP d n_Es_way 0 [some (.inr (.inr a0)), some (.inl a1), some (.inl a2), some (.inl a3)] [] m h Q
set_option maxRecDepth 100000 in
set_option maxHeartbeats 8000000 in
theorem s_Es_way_0 (d : Nat) (a0 a1 a2 a3 : Int) (m : zM) (h : zH) (Q : zQ) (H :
  kd h a0 = 12 ∧ kd h (m a0 2) = 2 ∧ zcal WP d n_Bd_isShed [.inr (.inr (m a0 2)), .inl a1] m h (zk1 fun r1 m1 h1 =>
  (r1 = 0 →
    ((0 : Int) = 0 ∨ (0 : Int) = 1) ∧ Q (some (.inl (0 : Int))) m1 h1) ∧
  (¬ (r1 = 0) →
    kd h1 a0 = 12 ∧ kd h1 (m1 a0 2) = 2 ∧ zcal WP d n_Bd_isShed [.inr (.inr (m1 a0 2)), .inl a2] m1 h1 (zk1 fun r2 m2 h2 =>
    (r2 = 0 →
      ((0 : Int) = 0 ∨ (0 : Int) = 1) ∧ Q (some (.inl (0 : Int))) m2 h2) ∧
    (¬ (r2 = 0) →
      (a1 = a2 →
        ((0 : Int) = 0 ∨ (0 : Int) = 1) ∧ Q (some (.inl (0 : Int))) m2 h2) ∧
      (¬ (a1 = a2) →
        zcal WP d n_Es_within [.inl a3, .inl 0, .inl 9] m2 h2 (zk1 fun r3 m3 h3 =>
        (r3 ≠ 0 →
          kd h3 a0 = 12 ∧ kd h3 (m3 a0 2) = 2 ∧ kd h3 (m3 (m3 a0 2) 1) = 101 ∧ 0 < (m3 (m3 a0 2) 1) ∧ (0 : Int) ≤ (w32 ((w32 (a1 * 5)) + a2)) ∧ (w32 ((w32 (a1 * 5)) + a2)) < ln h3 (m3 (m3 a0 2) 1) ∧ ∀ m4, m4 = zwr m3 (m3 (m3 a0 2) 1) (w32 ((w32 (a1 * 5)) + a2)) a3 →
          kd h3 a0 = 12 ∧ kd h3 (m4 a0 2) = 2 ∧ kd h3 (m4 (m4 a0 2) 1) = 101 ∧ 0 < (m4 (m4 a0 2) 1) ∧ (0 : Int) ≤ (w32 ((w32 (a2 * 5)) + a1)) ∧ (w32 ((w32 (a2 * 5)) + a1)) < ln h3 (m4 (m4 a0 2) 1) ∧ ∀ m5, m5 = zwr m4 (m4 (m4 a0 2) 1) (w32 ((w32 (a2 * 5)) + a1)) a3 →
          ((1 : Int) = 0 ∨ (1 : Int) = 1) ∧ Q (some (.inl (1 : Int))) m5 h3) ∧
        (¬ (r3 ≠ 0) →
          ((0 : Int) = 0 ∨ (0 : Int) = 1) ∧ Q (some (.inl (0 : Int))) m3 h3)))))))) : q_Es_way_0 d a0 a1 a2 a3 m h Q := zvc_ok zc_Es_way zm_Es_way 43 (fun _ => rfl) H
theorem e_Es_way (d : Nat) (a0 a1 a2 a3 : Int) (m : zM) (h : zH) (Q : zQ) (H : q_Es_way_0 d a0 a1 a2 a3 m h Q) : zcal WP (d + 1) n_Es_way [.inr (.inr a0), .inl a1, .inl a2, .inl a3] m h Q := zcal_mk rfl H
def zm_Es_engine : Nat → Option (List Bool) := fun pc => none
abbrev q_Es_engine_0 (d : Nat) (a0 a1 a2 : Int) (m : zM) (h : zH) (Q : zQ) : Prop := WP d n_Es_engine 0 [some (.inr (.inr a0)), some (.inl a1), some (.inl a2)] [] m h Q
set_option maxRecDepth 100000 in
set_option maxHeartbeats 8000000 in
theorem s_Es_engine_0 (d : Nat) (a0 a1 a2 : Int) (m : zM) (h : zH) (Q : zQ) (H :
  kd h a0 = 12 ∧ kd h (m a0 2) = 2 ∧ ((9 : Int) ≤ (m (m a0 2) 3) →
    Q (some (.inl ((-1)))) m h) ∧
  (¬ ((9 : Int) ≤ (m (m a0 2) 3)) →
    zcal WP d n_Es_isClass [.inl a1] m h (zk1 fun r1 m1 h1 =>
    (r1 = 0 →
      Q (some (.inl ((-1)))) m1 h1) ∧
    (¬ (r1 = 0) →
      kd h1 a0 = 12 ∧ kd h1 (m1 a0 2) = 2 ∧ zcal WP d n_Bd_isShed [.inr (.inr (m1 a0 2)), .inl a2] m1 h1 (zk1 fun r2 m2 h2 =>
      (r2 ≠ 0 →
        kd h2 a0 = 12 ∧ ∀ m3 h3, m3 = znm m2 h2 → h3 = znh h2 6 0 15 →
        kd h3 (nx h2) = 6 ∧ zcal WP d n_En_init [.inr (.inr (nx h2)), .inl a1, .inl a2] m3 h3 (zk0 fun m4 h4 =>
        kd h4 (m2 a0 2) = 2 ∧ zcal WP d n_Bd_addEngine [.inr (.inr (m2 a0 2)), .inr (.inr (nx h2))] m4 h4 (zk1 fun r5 m5 h5 =>
        Q (some (.inl r5)) m5 h5))) ∧
      (¬ (r2 ≠ 0) →
        Q (some (.inl ((-1)))) m2 h2)))))) : q_Es_engine_0 d a0 a1 a2 m h Q := zvc_ok zc_Es_engine zm_Es_engine 25 (fun _ => rfl) H
theorem e_Es_engine (d : Nat) (a0 a1 a2 : Int) (m : zM) (h : zH) (Q : zQ) (H : q_Es_engine_0 d a0 a1 a2 m h Q) : zcal WP (d + 1) n_Es_engine [.inr (.inr a0), .inl a1, .inl a2] m h Q := zcal_mk rfl H
def zm_Es_man : Nat → Option (List Bool) := fun pc => none
abbrev q_Es_man_0 (d : Nat) (a0 a1 : Int) (m : zM) (h : zH) (Q : zQ) : Prop := WP d n_Es_man 0 [some (.inr (.inr a0)), some (.inl a1)] [] m h Q
set_option maxRecDepth 100000 in
set_option maxHeartbeats 8000000 in
theorem s_Es_man_0 (d : Nat) (a0 a1 : Int) (m : zM) (h : zH) (Q : zQ) (H :
  kd h a0 = 12 ∧ kd h (m a0 2) = 2 ∧ ((8 : Int) ≤ (m (m a0 2) 5) →
    Q (some (.inl ((-1)))) m h) ∧
  (¬ ((8 : Int) ≤ (m (m a0 2) 5)) →
    zcal WP d n_Es_within [.inl a1, .inl 0, .inl 255] m h (zk1 fun r1 m1 h1 =>
    (r1 ≠ 0 →
      kd h1 a0 = 12 ∧ kd h1 (m1 a0 2) = 2 ∧ kd h1 a0 = 12 ∧ kd h1 (m1 a0 2) = 2 ∧ kd h1 (m1 (m1 a0 2) 4) = 101 ∧ 0 < (m1 (m1 a0 2) 4) ∧ (0 : Int) ≤ (m1 (m1 a0 2) 5) ∧ (m1 (m1 a0 2) 5) < ln h1 (m1 (m1 a0 2) 4) ∧ ∀ m2, m2 = zwr m1 (m1 (m1 a0 2) 4) (m1 (m1 a0 2) 5) a1 →
      kd h1 a0 = 12 ∧ kd h1 (m2 a0 2) = 2 ∧ kd h1 (m2 a0 2) = 2 ∧ 0 < (m2 a0 2) ∧ ∀ m3, m3 = zwr m2 (m2 a0 2) 5 (w32 ((m2 (m2 a0 2) 5) + 1)) →
      kd h1 a0 = 12 ∧ kd h1 (m3 a0 2) = 2 ∧ Q (some (.inl (w32 ((m3 (m3 a0 2) 5) - 1)))) m3 h1) ∧
    (¬ (r1 ≠ 0) →
      Q (some (.inl ((-1)))) m1 h1)))) : q_Es_man_0 d a0 a1 m h Q := zvc_ok zc_Es_man zm_Es_man 34 (fun _ => rfl) H
theorem e_Es_man (d : Nat) (a0 a1 : Int) (m : zM) (h : zH) (Q : zQ) (H : q_Es_man_0 d a0 a1 m h Q) : zcal WP (d + 1) n_Es_man [.inr (.inr a0), .inl a1] m h Q := zcal_mk rfl H
def zm_Es_turn : Nat → Option (List Bool) := fun pc => bif Nat.beq pc 32 then some [true, true, true, true, true, true, true, true, true, false, false, false, false] else (bif Nat.beq pc 61 then some [true, true, true, true, true, true, true, true, true, true, false, false, false] else (bif Nat.beq pc 96 then some [true, true, true, true, true, true, true, true, true, true, true, false, false] else (bif Nat.beq pc 183 then some [true, false, false, false, false, false, false, false, true, false, false, false, true] else (none))))
abbrev q_Es_turn_0 (d : Nat) (a0 a1 a2 a3 a4 a5 a6 a7 a8 : Int) (m : zM) (h : zH) (Q : zQ) : Prop := WP d n_Es_turn 0 [some (.inr (.inr a0)), some (.inl a1), some (.inl a2), some (.inl a3), some (.inl a4), some (.inl a5), some (.inl a6), some (.inl a7), some (.inl a8), none, none, none, none] [] m h Q
abbrev q_Es_turn_32 (d : Nat) (a0 a1 a2 a3 a4 a5 a6 a7 a8 s0 : Int) (m : zM) (h : zH) (Q : zQ) : Prop := WP d n_Es_turn 32 [some (.inr (.inr a0)), some (.inl a1), some (.inl a2), some (.inl a3), some (.inl a4), some (.inl a5), some (.inl a6), some (.inl a7), some (.inl a8), none, none, none, none] [.inl s0] m h Q
abbrev q_Es_turn_61 (d : Nat) (a0 a1 a2 a3 a4 a5 a6 a7 a8 a9 s0 : Int) (m : zM) (h : zH) (Q : zQ) : Prop := WP d n_Es_turn 61 [some (.inr (.inr a0)), some (.inl a1), some (.inl a2), some (.inl a3), some (.inl a4), some (.inl a5), some (.inl a6), some (.inl a7), some (.inl a8), some (.inl a9), none, none, none] [.inl s0] m h Q
abbrev q_Es_turn_96 (d : Nat) (a0 a1 a2 a3 a4 a5 a6 a7 a8 a9 a10 s0 : Int) (m : zM) (h : zH) (Q : zQ) : Prop := WP d n_Es_turn 96 [some (.inr (.inr a0)), some (.inl a1), some (.inl a2), some (.inl a3), some (.inl a4), some (.inl a5), some (.inl a6), some (.inl a7), some (.inl a8), some (.inl a9), some (.inl a10), none, none] [.inl s0] m h Q
abbrev q_Es_turn_183 (d : Nat) (a0 a8 a12 s0 s1 : Int) (m : zM) (h : zH) (Q : zQ) : Prop := WP d n_Es_turn 183 [some (.inr (.inr a0)), none, none, none, none, none, none, none, some (.inl a8), none, none, none, some (.inr (.inr a12))] [.inl s0, .inr (.inr s1)] m h Q
set_option maxRecDepth 100000 in
set_option maxHeartbeats 8000000 in
theorem s_Es_turn_0 (d : Nat) (a0 a1 a2 a3 a4 a5 a6 a7 a8 : Int) (m : zM) (h : zH) (Q : zQ) (H :
  zcal WP d n_Es_within [.inl a3, .inl 0, .inl 24] m h (zk1 fun r1 m1 h1 =>
  (r1 = 0 →
    q_Es_turn_32 d a0 a1 a2 a3 a4 a5 a6 a7 a8 0 m1 h1 Q) ∧
  (¬ (r1 = 0) →
    zcal WP d n_Es_within [.inl a4, .inl 0, .inl 24] m1 h1 (zk1 fun r2 m2 h2 =>
    (r2 = 0 →
      q_Es_turn_32 d a0 a1 a2 a3 a4 a5 a6 a7 a8 0 m2 h2 Q) ∧
    (¬ (r2 = 0) →
      (a4 ≤ a3 →
        q_Es_turn_32 d a0 a1 a2 a3 a4 a5 a6 a7 a8 0 m2 h2 Q) ∧
      (¬ (a4 ≤ a3) →
        q_Es_turn_32 d a0 a1 a2 a3 a4 a5 a6 a7 a8 1 m2 h2 Q)))))) : q_Es_turn_0 d a0 a1 a2 a3 a4 a5 a6 a7 a8 m h Q := zvc_ok zc_Es_turn zm_Es_turn 101 (fun _ => rfl) H
set_option maxRecDepth 100000 in
set_option maxHeartbeats 8000000 in
theorem s_Es_turn_32 (d : Nat) (a0 a1 a2 a3 a4 a5 a6 a7 a8 s0 : Int) (m : zM) (h : zH) (Q : zQ) (H :
  zcal WP d n_Es_within [.inl a6, .inl 0, .inl 99] m h (zk1 fun r1 m1 h1 =>
  (r1 = 0 →
    q_Es_turn_61 d a0 a1 a2 a3 a4 a5 a6 a7 a8 s0 0 m1 h1 Q) ∧
  (¬ (r1 = 0) →
    zcal WP d n_Es_within [.inl a7, .inl 0, .inl 7] m1 h1 (zk1 fun r2 m2 h2 =>
    (r2 = 0 →
      q_Es_turn_61 d a0 a1 a2 a3 a4 a5 a6 a7 a8 s0 0 m2 h2 Q) ∧
    (¬ (r2 = 0) →
      q_Es_turn_61 d a0 a1 a2 a3 a4 a5 a6 a7 a8 s0 1 m2 h2 Q))))) : q_Es_turn_32 d a0 a1 a2 a3 a4 a5 a6 a7 a8 s0 m h Q := zvc_ok zc_Es_turn zm_Es_turn 101 (fun _ => rfl) H
set_option maxRecDepth 100000 in
set_option maxHeartbeats 8000000 in
theorem s_Es_turn_61 (d : Nat) (a0 a1 a2 a3 a4 a5 a6 a7 a8 a9 s0 : Int) (m : zM) (h : zH) (Q : zQ) (H :
  (a8 ≠ 0 →
    q_Es_turn_96 d a0 a1 a2 a3 a4 a5 a6 a7 a8 a9 s0 1 m h Q) ∧
  (¬ (a8 ≠ 0) →
    kd h a0 = 12 ∧ kd h (m a0 2) = 2 ∧ zcal WP d n_Bd_isShed [.inr (.inr (m a0 2)), .inl a2] m h (zk1 fun r1 m1 h1 =>
    (r1 = 0 →
      q_Es_turn_96 d a0 a1 a2 a3 a4 a5 a6 a7 a8 a9 s0 0 m1 h1 Q) ∧
    (¬ (r1 = 0) →
      zcal WP d n_Es_within [.inl a5, .inl 0, .inl 400] m1 h1 (zk1 fun r2 m2 h2 =>
      (r2 = 0 →
        q_Es_turn_96 d a0 a1 a2 a3 a4 a5 a6 a7 a8 a9 s0 0 m2 h2 Q) ∧
      (¬ (r2 = 0) →
        q_Es_turn_96 d a0 a1 a2 a3 a4 a5 a6 a7 a8 a9 s0 1 m2 h2 Q)))))) : q_Es_turn_61 d a0 a1 a2 a3 a4 a5 a6 a7 a8 a9 s0 m h Q := zvc_ok zc_Es_turn zm_Es_turn 101 (fun _ => rfl) H
set_option maxRecDepth 100000 in
set_option maxHeartbeats 8000000 in
theorem s_Es_turn_96 (d : Nat) (a0 a1 a2 a3 a4 a5 a6 a7 a8 a9 a10 s0 : Int) (m : zM) (h : zH) (Q : zQ) (H :
  kd h a0 = 12 ∧ kd h (m a0 2) = 2 ∧ ((12 : Int) ≤ (m (m a0 2) 7) →
    Q (some (.inl ((-1)))) m h) ∧
  (¬ ((12 : Int) ≤ (m (m a0 2) 7)) →
    kd h a0 = 12 ∧ kd h (m a0 2) = 2 ∧ zcal WP d n_Bd_isShed [.inr (.inr (m a0 2)), .inl a1] m h (zk1 fun r1 m1 h1 =>
    (r1 = 0 →
      Q (some (.inl ((-1)))) m1 h1) ∧
    (¬ (r1 = 0) →
      (a9 = 0 →
        Q (some (.inl ((-1)))) m1 h1) ∧
      (¬ (a9 = 0) →
        (a10 = 0 →
          Q (some (.inl ((-1)))) m1 h1) ∧
        (¬ (a10 = 0) →
          (s0 ≠ 0 →
            ∀ m2 h2, m2 = znm m1 h1 → h2 = znh h1 11 0 8 →
            kd h2 (nx h1) = 11 ∧ zcal WP d n_Tu_init [.inr (.inr (nx h1)), .inl a1, .inl a3, .inl a4, .inl a6, .inl a7] m2 h2 (zk0 fun m3 h3 =>
            (a8 = 0 →
              kd h3 (nx h1) = 11 ∧ 0 < (nx h1) ∧ ∀ m4, m4 = zwr m3 (nx h1) 5 a2 →
              (a8 = 0 →
                q_Es_turn_183 d a0 a8 (nx h1) a5 (nx h1) m4 h3 Q) ∧
              (¬ (a8 = 0) →
                q_Es_turn_183 d a0 a8 (nx h1) 0 (nx h1) m4 h3 Q)) ∧
            (¬ (a8 = 0) →
              kd h3 (nx h1) = 11 ∧ 0 < (nx h1) ∧ ∀ m4, m4 = zwr m3 (nx h1) 5 a1 →
              (a8 = 0 →
                q_Es_turn_183 d a0 a8 (nx h1) a5 (nx h1) m4 h3 Q) ∧
              (¬ (a8 = 0) →
                q_Es_turn_183 d a0 a8 (nx h1) 0 (nx h1) m4 h3 Q)))) ∧
          (¬ (s0 ≠ 0) →
            Q (some (.inl ((-1)))) m1 h1))))))) : q_Es_turn_96 d a0 a1 a2 a3 a4 a5 a6 a7 a8 a9 a10 s0 m h Q := zvc_ok zc_Es_turn zm_Es_turn 101 (fun _ => rfl) H
set_option maxRecDepth 100000 in
set_option maxHeartbeats 8000000 in
theorem s_Es_turn_183 (d : Nat) (a0 a8 a12 s0 s1 : Int) (m : zM) (h : zH) (Q : zQ) (H :
  kd h s1 = 11 ∧ 0 < s1 ∧ ∀ m1, m1 = zwr m s1 6 s0 →
  (a8 = 0 →
    kd h a12 = 11 ∧ 0 < a12 ∧ ∀ m2, m2 = zwr m1 a12 7 0 →
    kd h a0 = 12 ∧ kd h (m2 a0 2) = 2 ∧ zcal WP d n_Bd_addTurn [.inr (.inr (m2 a0 2)), .inr (.inr a12)] m2 h (zk1 fun r3 m3 h3 =>
    Q (some (.inl r3)) m3 h3)) ∧
  (¬ (a8 = 0) →
    kd h a12 = 11 ∧ 0 < a12 ∧ ∀ m2, m2 = zwr m1 a12 7 1 →
    kd h a0 = 12 ∧ kd h (m2 a0 2) = 2 ∧ zcal WP d n_Bd_addTurn [.inr (.inr (m2 a0 2)), .inr (.inr a12)] m2 h (zk1 fun r3 m3 h3 =>
    Q (some (.inl r3)) m3 h3))) : q_Es_turn_183 d a0 a8 a12 s0 s1 m h Q := zvc_ok zc_Es_turn zm_Es_turn 101 (fun _ => rfl) H
theorem e_Es_turn (d : Nat) (a0 a1 a2 a3 a4 a5 a6 a7 a8 : Int) (m : zM) (h : zH) (Q : zQ) (H : q_Es_turn_0 d a0 a1 a2 a3 a4 a5 a6 a7 a8 m h Q) : zcal WP (d + 1) n_Es_turn [.inr (.inr a0), .inl a1, .inl a2, .inl a3, .inl a4, .inl a5, .inl a6, .inl a7, .inl a8] m h Q := zcal_mk rfl H
def zm_Es_run : Nat → Option (List Bool) := fun pc => none
abbrev q_Es_run_0 (d : Nat) (a0 a1 a2 a3 a4 : Int) (m : zM) (h : zH) (Q : zQ) : Prop := WP d n_Es_run 0 [some (.inr (.inr a0)), some (.inl a1), some (.inl a2), some (.inl a3), some (.inl a4), none] [] m h Q
set_option maxRecDepth 100000 in
set_option maxHeartbeats 8000000 in
theorem s_Es_run_0 (d : Nat) (a0 a1 a2 a3 a4 : Int) (m : zM) (h : zH) (Q : zQ) (H :
  kd h a0 = 12 ∧ kd h (m a0 2) = 2 ∧ zcal WP d n_Bd_isTurn [.inr (.inr (m a0 2)), .inl a2] m h (zk1 fun r1 m1 h1 =>
  (r1 = 0 →
    Q (some (.inl ((-1)))) m1 h1) ∧
  (¬ (r1 = 0) →
    kd h1 a0 = 12 ∧ kd h1 (m1 a0 2) = 2 ∧ zcal WP d n_Bd_isMan [.inr (.inr (m1 a0 2)), .inl a3] m1 h1 (zk1 fun r2 m2 h2 =>
    (r2 = 0 →
      Q (some (.inl ((-1)))) m2 h2) ∧
    (¬ (r2 = 0) →
      kd h2 a0 = 12 ∧ kd h2 (m2 a0 2) = 2 ∧ zcal WP d n_Bd_takesFact [.inr (.inr (m2 a0 2)), .inl a1, .inl a4] m2 h2 (zk1 fun r3 m3 h3 =>
      (r3 ≠ 0 →
        ∀ m4 h4, m4 = znm m3 h3 → h4 = znh h3 7 0 18 →
        kd h4 (nx h3) = 7 ∧ zcal WP d n_Fa_init [.inr (.inr (nx h3)), .inl 4, .inl a1, .inl a4] m4 h4 (zk0 fun m5 h5 =>
        kd h5 (nx h3) = 7 ∧ 0 < (nx h3) ∧ ∀ m6, m6 = zwr m5 (nx h3) 3 a2 →
        kd h5 (nx h3) = 7 ∧ 0 < (nx h3) ∧ ∀ m7, m7 = zwr m6 (nx h3) 4 a3 →
        kd h5 a0 = 12 ∧ kd h5 (m7 a0 2) = 2 ∧ zcal WP d n_Bd_addFact [.inr (.inr (m7 a0 2)), .inr (.inr (nx h3))] m7 h5 (zk1 fun r8 m8 h8 =>
        Q (some (.inl r8)) m8 h8))) ∧
      (¬ (r3 ≠ 0) →
        Q (some (.inl ((-1)))) m3 h3))))))) : q_Es_run_0 d a0 a1 a2 a3 a4 m h Q := zvc_ok zc_Es_run zm_Es_run 37 (fun _ => rfl) H
theorem e_Es_run (d : Nat) (a0 a1 a2 a3 a4 : Int) (m : zM) (h : zH) (Q : zQ) (H : q_Es_run_0 d a0 a1 a2 a3 a4 m h Q) : zcal WP (d + 1) n_Es_run [.inr (.inr a0), .inl a1, .inl a2, .inl a3, .inl a4] m h Q := zcal_mk rfl H
def zm_Es_mile : Nat → Option (List Bool) := fun pc => none
abbrev q_Es_mile_0 (d : Nat) (a0 a1 a2 : Int) (m : zM) (h : zH) (Q : zQ) : Prop := WP d n_Es_mile 0 [some (.inr (.inr a0)), some (.inl a1), some (.inl a2), none] [] m h Q
set_option maxRecDepth 100000 in
set_option maxHeartbeats 8000000 in
theorem s_Es_mile_0 (d : Nat) (a0 a1 a2 : Int) (m : zM) (h : zH) (Q : zQ) (H :
  kd h a0 = 12 ∧ kd h (m a0 2) = 2 ∧ ((180 : Int) ≤ (m (m a0 2) 9) →
    Q (some (.inl ((-1)))) m h) ∧
  (¬ ((180 : Int) ≤ (m (m a0 2) 9)) →
    kd h a0 = 12 ∧ kd h a0 = 12 ∧ kd h (m a0 2) = 2 ∧ kd h (m a0 2) = 2 ∧ zcal WP d n_Bd_factOf [.inr (.inr (m a0 2)), .inl a1, .inl (m (m a0 2) 9), .inl 4] m h (zk3 fun r1 m1 h1 =>
    (r1 = 0 →
      Q (some (.inl ((-1)))) m1 h1) ∧
    (¬ (r1 = 0) →
      zcal WP d n_Es_within [.inl a2, .inl 0, .inl 9999] m1 h1 (zk1 fun r2 m2 h2 =>
      (r2 ≠ 0 →
        ∀ m3 h3, m3 = znm m2 h2 → h3 = znh h2 7 0 18 →
        kd h3 (nx h2) = 7 ∧ zcal WP d n_Fa_init [.inr (.inr (nx h2)), .inl 5, .inl ((-1)), .inl ((-1))] m3 h3 (zk0 fun m4 h4 =>
        kd h4 (nx h2) = 7 ∧ 0 < (nx h2) ∧ ∀ m5, m5 = zwr m4 (nx h2) 7 a1 →
        kd h4 (nx h2) = 7 ∧ 0 < (nx h2) ∧ ∀ m6, m6 = zwr m5 (nx h2) 6 a2 →
        kd h4 a0 = 12 ∧ kd h4 (m6 a0 2) = 2 ∧ zcal WP d n_Bd_addFact [.inr (.inr (m6 a0 2)), .inr (.inr (nx h2))] m6 h4 (zk1 fun r7 m7 h7 =>
        Q (some (.inl r7)) m7 h7))) ∧
      (¬ (r2 ≠ 0) →
        Q (some (.inl ((-1)))) m2 h2)))))) : q_Es_mile_0 d a0 a1 a2 m h Q := zvc_ok zc_Es_mile zm_Es_mile 40 (fun _ => rfl) H
theorem e_Es_mile (d : Nat) (a0 a1 a2 : Int) (m : zM) (h : zH) (Q : zQ) (H : q_Es_mile_0 d a0 a1 a2 m h Q) : zcal WP (d + 1) n_Es_mile [.inr (.inr a0), .inl a1, .inl a2] m h Q := zcal_mk rfl H
def zm_Es_fact : Nat → Option (List Bool) := fun pc => none
abbrev q_Es_fact_0 (d : Nat) (a0 a1 a2 a3 : Int) (m : zM) (h : zH) (Q : zQ) : Prop := WP d n_Es_fact 0 [some (.inr (.inr a0)), some (.inl a1), some (.inl a2), some (.inl a3)] [] m h Q
set_option maxRecDepth 100000 in
set_option maxHeartbeats 8000000 in
theorem s_Es_fact_0 (d : Nat) (a0 a1 a2 a3 : Int) (m : zM) (h : zH) (Q : zQ) (H :
  zcal WP d n_Es_within [.inl a1, .inl 0, .inl 3] m h (zk1 fun r1 m1 h1 =>
  (r1 = 0 →
    Q (some (.inl ((-1)))) m1 h1) ∧
  (¬ (r1 = 0) →
    kd h1 a0 = 12 ∧ kd h1 (m1 a0 2) = 2 ∧ zcal WP d n_Bd_takesFact [.inr (.inr (m1 a0 2)), .inl a2, .inl a3] m1 h1 (zk1 fun r2 m2 h2 =>
    (r2 ≠ 0 →
      kd h2 a0 = 12 ∧ ∀ m3 h3, m3 = znm m2 h2 → h3 = znh h2 7 0 18 →
      kd h3 (nx h2) = 7 ∧ zcal WP d n_Fa_init [.inr (.inr (nx h2)), .inl a1, .inl a2, .inl a3] m3 h3 (zk0 fun m4 h4 =>
      kd h4 (m2 a0 2) = 2 ∧ zcal WP d n_Bd_addFact [.inr (.inr (m2 a0 2)), .inr (.inr (nx h2))] m4 h4 (zk1 fun r5 m5 h5 =>
      Q (some (.inl r5)) m5 h5))) ∧
    (¬ (r2 ≠ 0) →
      Q (some (.inl ((-1)))) m2 h2))))) : q_Es_fact_0 d a0 a1 a2 a3 m h Q := zvc_ok zc_Es_fact zm_Es_fact 24 (fun _ => rfl) H
theorem e_Es_fact (d : Nat) (a0 a1 a2 a3 : Int) (m : zM) (h : zH) (Q : zQ) (H : q_Es_fact_0 d a0 a1 a2 a3 m h Q) : zcal WP (d + 1) n_Es_fact [.inr (.inr a0), .inl a1, .inl a2, .inl a3] m h Q := zcal_mk rfl H
def zm_Es_shops : Nat → Option (List Bool) := fun pc => none
abbrev q_Es_shops_0 (d : Nat) (a0 a1 a2 a3 : Int) (m : zM) (h : zH) (Q : zQ) : Prop := WP d n_Es_shops 0 [some (.inr (.inr a0)), some (.inl a1), some (.inl a2), some (.inl a3)] [] m h Q
set_option maxRecDepth 100000 in
set_option maxHeartbeats 8000000 in
theorem s_Es_shops_0 (d : Nat) (a0 a1 a2 a3 : Int) (m : zM) (h : zH) (Q : zQ) (H :
  kd h a0 = 12 ∧ zcal WP d n_Es_addValued [.inr (.inr a0), .inl 6, .inl a1, .inl a2, .inl a3, .inl 119] m h (zk1 fun r1 m1 h1 =>
  Q (some (.inl r1)) m1 h1)) : q_Es_shops_0 d a0 a1 a2 a3 m h Q := zvc_ok zc_Es_shops zm_Es_shops 9 (fun _ => rfl) H
theorem e_Es_shops (d : Nat) (a0 a1 a2 a3 : Int) (m : zM) (h : zH) (Q : zQ) (H : q_Es_shops_0 d a0 a1 a2 a3 m h Q) : zcal WP (d + 1) n_Es_shops [.inr (.inr a0), .inl a1, .inl a2, .inl a3] m h Q := zcal_mk rfl H
def zm_Es_fails : Nat → Option (List Bool) := fun pc => none
abbrev q_Es_fails_0 (d : Nat) (a0 a1 a2 a3 : Int) (m : zM) (h : zH) (Q : zQ) : Prop := WP d n_Es_fails 0 [some (.inr (.inr a0)), some (.inl a1), some (.inl a2), some (.inl a3)] [] m h Q
set_option maxRecDepth 100000 in
set_option maxHeartbeats 8000000 in
theorem s_Es_fails_0 (d : Nat) (a0 a1 a2 a3 : Int) (m : zM) (h : zH) (Q : zQ) (H :
  kd h a0 = 12 ∧ zcal WP d n_Es_addValued [.inr (.inr a0), .inl 7, .inl a1, .inl a2, .inl a3, .inl 23] m h (zk1 fun r1 m1 h1 =>
  Q (some (.inl r1)) m1 h1)) : q_Es_fails_0 d a0 a1 a2 a3 m h Q := zvc_ok zc_Es_fails zm_Es_fails 9 (fun _ => rfl) H
theorem e_Es_fails (d : Nat) (a0 a1 a2 a3 : Int) (m : zM) (h : zH) (Q : zQ) (H : q_Es_fails_0 d a0 a1 a2 a3 m h Q) : zcal WP (d + 1) n_Es_fails [.inr (.inr a0), .inl a1, .inl a2, .inl a3] m h Q := zcal_mk rfl H
def zm_Es_lent : Nat → Option (List Bool) := fun pc => none
abbrev q_Es_lent_0 (d : Nat) (a0 a1 a2 a3 : Int) (m : zM) (h : zH) (Q : zQ) : Prop := WP d n_Es_lent 0 [some (.inr (.inr a0)), some (.inl a1), some (.inl a2), some (.inl a3)] [] m h Q
set_option maxRecDepth 100000 in
set_option maxHeartbeats 8000000 in
theorem s_Es_lent_0 (d : Nat) (a0 a1 a2 a3 : Int) (m : zM) (h : zH) (Q : zQ) (H :
  kd h a0 = 12 ∧ kd h (m a0 2) = 2 ∧ kd h a0 = 12 ∧ zcal WP d n_Es_addValued [.inr (.inr a0), .inl 8, .inl a1, .inl a3, .inl a2, .inl (w32 ((m (m a0 2) 0) - 1))] m h (zk1 fun r1 m1 h1 =>
  Q (some (.inl r1)) m1 h1)) : q_Es_lent_0 d a0 a1 a2 a3 m h Q := zvc_ok zc_Es_lent zm_Es_lent 13 (fun _ => rfl) H
theorem e_Es_lent (d : Nat) (a0 a1 a2 a3 : Int) (m : zM) (h : zH) (Q : zQ) (H : q_Es_lent_0 d a0 a1 a2 a3 m h Q) : zcal WP (d + 1) n_Es_lent [.inr (.inr a0), .inl a1, .inl a2, .inl a3] m h Q := zcal_mk rfl H
def zm_Es_coals : Nat → Option (List Bool) := fun pc => none
abbrev q_Es_coals_0 (d : Nat) (a0 a1 a2 a3 : Int) (m : zM) (h : zH) (Q : zQ) : Prop := WP d n_Es_coals 0 [some (.inr (.inr a0)), some (.inl a1), some (.inl a2), some (.inl a3), none] [] m h Q
set_option maxRecDepth 100000 in
set_option maxHeartbeats 8000000 in
theorem s_Es_coals_0 (d : Nat) (a0 a1 a2 a3 : Int) (m : zM) (h : zH) (Q : zQ) (H :
  kd h a0 = 12 ∧ kd h (m a0 2) = 2 ∧ ((180 : Int) ≤ (m (m a0 2) 9) →
    Q (some (.inl ((-1)))) m h) ∧
  (¬ ((180 : Int) ≤ (m (m a0 2) 9)) →
    kd h a0 = 12 ∧ kd h (m a0 2) = 2 ∧ zcal WP d n_Bd_isShed [.inr (.inr (m a0 2)), .inl a1] m h (zk1 fun r1 m1 h1 =>
    (r1 = 0 →
      Q (some (.inl ((-1)))) m1 h1) ∧
    (¬ (r1 = 0) →
      zcal WP d n_Es_isDay [.inl a2] m1 h1 (zk1 fun r2 m2 h2 =>
      (r2 = 0 →
        Q (some (.inl ((-1)))) m2 h2) ∧
      (¬ (r2 = 0) →
        zcal WP d n_Es_within [.inl a3, .inl 0, .inl 9999] m2 h2 (zk1 fun r3 m3 h3 =>
        (r3 ≠ 0 →
          ∀ m4 h4, m4 = znm m3 h3 → h4 = znh h3 7 0 18 →
          kd h4 (nx h3) = 7 ∧ zcal WP d n_Fa_init [.inr (.inr (nx h3)), .inl 9, .inl ((-1)), .inl a2] m4 h4 (zk0 fun m5 h5 =>
          kd h5 (nx h3) = 7 ∧ 0 < (nx h3) ∧ ∀ m6, m6 = zwr m5 (nx h3) 5 a1 →
          kd h5 (nx h3) = 7 ∧ 0 < (nx h3) ∧ ∀ m7, m7 = zwr m6 (nx h3) 6 a3 →
          kd h5 a0 = 12 ∧ kd h5 (m7 a0 2) = 2 ∧ zcal WP d n_Bd_addFact [.inr (.inr (m7 a0 2)), .inr (.inr (nx h3))] m7 h5 (zk1 fun r8 m8 h8 =>
          Q (some (.inl r8)) m8 h8))) ∧
        (¬ (r3 ≠ 0) →
          Q (some (.inl ((-1)))) m3 h3)))))))) : q_Es_coals_0 d a0 a1 a2 a3 m h Q := zvc_ok zc_Es_coals zm_Es_coals 39 (fun _ => rfl) H
theorem e_Es_coals (d : Nat) (a0 a1 a2 a3 : Int) (m : zM) (h : zH) (Q : zQ) (H : q_Es_coals_0 d a0 a1 a2 a3 m h Q) : zcal WP (d + 1) n_Es_coals [.inr (.inr a0), .inl a1, .inl a2, .inl a3] m h Q := zcal_mk rfl H
def zm_Es_rules : Nat → Option (List Bool) := fun pc => none
abbrev q_Es_rules_0 (d : Nat) (a0 a1 : Int) (m : zM) (h : zH) (Q : zQ) : Prop := WP d n_Es_rules 0 [some (.inr (.inr a0)), some (.inl a1)] [] m h Q
set_option maxRecDepth 100000 in
set_option maxHeartbeats 8000000 in
theorem s_Es_rules_0 (d : Nat) (a0 a1 : Int) (m : zM) (h : zH) (Q : zQ) (H :
  zcal WP d n_Es_isDay [.inl a1] m h (zk1 fun r1 m1 h1 =>
  (r1 ≠ 0 →
    kd h1 a0 = 12 ∧ kd h1 (m1 a0 0) = 3 ∧ zcal WP d n_Bk_openAt [.inr (.inr (m1 a0 0)), .inl a1] m1 h1 (zk0 fun m2 h2 =>
    kd h2 a0 = 12 ∧ kd h2 (m2 a0 0) = 3 ∧ Q (some (.inl (m2 (m2 a0 0) 2))) m2 h2)) ∧
  (¬ (r1 ≠ 0) →
    Q (some (.inl ((-1)))) m1 h1))) : q_Es_rules_0 d a0 a1 m h Q := zvc_ok zc_Es_rules zm_Es_rules 14 (fun _ => rfl) H
theorem e_Es_rules (d : Nat) (a0 a1 : Int) (m : zM) (h : zH) (Q : zQ) (H : q_Es_rules_0 d a0 a1 m h Q) : zcal WP (d + 1) n_Es_rules [.inr (.inr a0), .inl a1] m h Q := zcal_mk rfl H
def zm_Es_rule : Nat → Option (List Bool) := fun pc => none
abbrev q_Es_rule_0 (d : Nat) (a0 a1 a2 a3 : Int) (m : zM) (h : zH) (Q : zQ) : Prop := WP d n_Es_rule 0 [some (.inr (.inr a0)), some (.inl a1), some (.inl a2), some (.inl a3)] [] m h Q
set_option maxRecDepth 100000 in
set_option maxHeartbeats 8000000 in
theorem s_Es_rule_0 (d : Nat) (a0 a1 a2 a3 : Int) (m : zM) (h : zH) (Q : zQ) (H :
  zcal WP d n_Es_isDay [.inl a1] m h (zk1 fun r1 m1 h1 =>
  (r1 ≠ 0 →
    kd h1 a0 = 12 ∧ kd h1 (m1 a0 0) = 3 ∧ zcal WP d n_Bk_openAt [.inr (.inr (m1 a0 0)), .inl a1] m1 h1 (zk0 fun m2 h2 =>
    kd h2 a0 = 12 ∧ kd h2 (m2 a0 0) = 3 ∧ zcal WP d n_Es_within [.inl a2, .inl 0, .inl (w32 ((m2 (m2 a0 0) 2) - 1))] m2 h2 (zk1 fun r3 m3 h3 =>
    (r3 ≠ 0 →
      (a3 = 0 →
        kd h3 a0 = 12 ∧ kd h3 (m3 a0 0) = 3 ∧ zcal WP d n_Bk_sortOf [.inr (.inr (m3 a0 0)), .inl a2] m3 h3 (zk1 fun r4 m4 h4 =>
        Q (some (.inl r4)) m4 h4)) ∧
      (¬ a3 = 0 →
      (a3 = 1 →
        kd h3 a0 = 12 ∧ kd h3 (m3 a0 0) = 3 ∧ kd h3 (m3 (m3 a0 0) 0) = 101 ∧ (0 : Int) ≤ a2 ∧ a2 < ln h3 (m3 (m3 a0 0) 0) ∧ Q (some (.inl (m3 (m3 (m3 a0 0) 0) a2))) m3 h3) ∧
      (¬ a3 = 1 →
      (a3 = 2 →
        kd h3 a0 = 12 ∧ kd h3 (m3 a0 0) = 3 ∧ kd h3 (m3 (m3 a0 0) 1) = 101 ∧ (0 : Int) ≤ a2 ∧ a2 < ln h3 (m3 (m3 a0 0) 1) ∧ Q (some (.inl (m3 (m3 (m3 a0 0) 1) a2))) m3 h3) ∧
      (¬ a3 = 2 →
        Q (some (.inl ((-1)))) m3 h3)))) ∧
    (¬ (r3 ≠ 0) →
      Q (some (.inl ((-1)))) m3 h3)))) ∧
  (¬ (r1 ≠ 0) →
    Q (some (.inl ((-1)))) m1 h1))) : q_Es_rule_0 d a0 a1 a2 a3 m h Q := zvc_ok zc_Es_rule zm_Es_rule 42 (fun _ => rfl) H
theorem e_Es_rule (d : Nat) (a0 a1 a2 a3 : Int) (m : zM) (h : zH) (Q : zQ) (H : q_Es_rule_0 d a0 a1 a2 a3 m h Q) : zcal WP (d + 1) n_Es_rule [.inr (.inr a0), .inl a1, .inl a2, .inl a3] m h Q := zcal_mk rfl H
def zm_Es_state : Nat → Option (List Bool) := fun pc => none
abbrev q_Es_state_0 (d : Nat) (a0 a1 a2 a3 a4 : Int) (m : zM) (h : zH) (Q : zQ) : Prop := WP d n_Es_state 0 [some (.inr (.inr a0)), some (.inl a1), some (.inl a2), some (.inl a3), some (.inl a4)] [] m h Q
set_option maxRecDepth 100000 in
set_option maxHeartbeats 8000000 in
theorem s_Es_state_0 (d : Nat) (a0 a1 a2 a3 a4 : Int) (m : zM) (h : zH) (Q : zQ) (H :
  kd h a0 = 12 ∧ kd h (m a0 2) = 2 ∧ zcal WP d n_Bd_isEngine [.inr (.inr (m a0 2)), .inl a1] m h (zk1 fun r1 m1 h1 =>
  (r1 = 0 →
    Q (some (.inl ((-1)))) m1 h1) ∧
  (¬ (r1 = 0) →
    zcal WP d n_Es_isDay [.inl a2] m1 h1 (zk1 fun r2 m2 h2 =>
    (r2 = 0 →
      Q (some (.inl ((-1)))) m2 h2) ∧
    (¬ (r2 = 0) →
      kd h2 a0 = 12 ∧ kd h2 (m2 a0 2) = 2 ∧ zcal WP d n_Bd_isKnown [.inr (.inr (m2 a0 2)), .inl a3] m2 h2 (zk1 fun r3 m3 h3 =>
      (r3 ≠ 0 →
        kd h3 a0 = 12 ∧ kd h3 (m3 a0 2) = 2 ∧ zcal WP d n_Bd_settle [.inr (.inr (m3 a0 2)), .inl a3, .inl a2, .inl a2] m3 h3 (zk0 fun m4 h4 =>
        kd h4 a0 = 12 ∧ kd h4 (m4 a0 2) = 2 ∧ kd h4 (m4 (m4 a0 2) 2) = 116 ∧ (0 : Int) ≤ a1 ∧ a1 < ln h4 (m4 (m4 a0 2) 2) ∧ kd h4 (m4 (m4 (m4 a0 2) 2) a1) = 6 ∧ zcal WP d n_En_tell [.inr (.inr (m4 (m4 (m4 a0 2) 2) a1)), .inl a4, .inl a2] m4 h4 (zk1 fun r5 m5 h5 =>
        Q (some (.inl r5)) m5 h5))) ∧
      (¬ (r3 ≠ 0) →
        Q (some (.inl ((-1)))) m3 h3))))))) : q_Es_state_0 d a0 a1 a2 a3 a4 m h Q := zvc_ok zc_Es_state zm_Es_state 31 (fun _ => rfl) H
theorem e_Es_state (d : Nat) (a0 a1 a2 a3 a4 : Int) (m : zM) (h : zH) (Q : zQ) (H : q_Es_state_0 d a0 a1 a2 a3 a4 m h Q) : zcal WP (d + 1) n_Es_state [.inr (.inr a0), .inl a1, .inl a2, .inl a3, .inl a4] m h Q := zcal_mk rfl H
def zm_Es_isVoid : Nat → Option (List Bool) := fun pc => none
abbrev q_Es_isVoid_0 (d : Nat) (a0 a1 a2 : Int) (m : zM) (h : zH) (Q : zQ) : Prop := WP d n_Es_isVoid 0 [some (.inr (.inr a0)), some (.inl a1), some (.inl a2), none] [] m h Q
set_option maxRecDepth 100000 in
set_option maxHeartbeats 8000000 in
theorem s_Es_isVoid_0 (d : Nat) (a0 a1 a2 : Int) (m : zM) (h : zH) (Q : zQ) (H :
  kd h a0 = 12 ∧ kd h (m a0 2) = 2 ∧ zcal WP d n_Bd_factOf [.inr (.inr (m a0 2)), .inl a1, .inl a2, .inl 4] m h (zk3 fun r1 m1 h1 =>
  (r1 = 0 →
    Q (some (.inl ((-1)))) m1 h1) ∧
  (¬ (r1 = 0) →
    kd h1 a0 = 12 ∧ kd h1 (m1 a0 2) = 2 ∧ zcal WP d n_Bd_settle [.inr (.inr (m1 a0 2)), .inl a2, .inl 119, .inl 119] m1 h1 (zk0 fun m2 h2 =>
    kd h2 r1 = 7 ∧ Q (some (.inl (m2 r1 9))) m2 h2)))) : q_Es_isVoid_0 d a0 a1 a2 m h Q := zvc_ok zc_Es_isVoid zm_Es_isVoid 21 (fun _ => rfl) H
theorem e_Es_isVoid (d : Nat) (a0 a1 a2 : Int) (m : zM) (h : zH) (Q : zQ) (H : q_Es_isVoid_0 d a0 a1 a2 m h Q) : zcal WP (d + 1) n_Es_isVoid [.inr (.inr a0), .inl a1, .inl a2] m h Q := zcal_mk rfl H
def zm_Es_held : Nat → Option (List Bool) := fun pc => none
abbrev q_Es_held_0 (d : Nat) (a0 a1 a2 a3 : Int) (m : zM) (h : zH) (Q : zQ) : Prop := WP d n_Es_held 0 [some (.inr (.inr a0)), some (.inl a1), some (.inl a2), some (.inl a3), none] [] m h Q
set_option maxRecDepth 100000 in
set_option maxHeartbeats 8000000 in
theorem s_Es_held_0 (d : Nat) (a0 a1 a2 a3 : Int) (m : zM) (h : zH) (Q : zQ) (H :
  kd h a0 = 12 ∧ kd h (m a0 2) = 2 ∧ zcal WP d n_Bd_factOf [.inr (.inr (m a0 2)), .inl a1, .inl a2, .inl 4] m h (zk3 fun r1 m1 h1 =>
  (r1 = 0 →
    Q (some (.inl ((-1)))) m1 h1) ∧
  (¬ (r1 = 0) →
    kd h1 a0 = 12 ∧ kd h1 (m1 a0 2) = 2 ∧ zcal WP d n_Bd_settle [.inr (.inr (m1 a0 2)), .inl a2, .inl 119, .inl 119] m1 h1 (zk0 fun m2 h2 =>
    kd h2 r1 = 7 ∧ ((m2 r1 9) ≠ 0 →
      Q (some (.inl ((-1)))) m2 h2) ∧
    (¬ ((m2 r1 9) ≠ 0) →
      kd h2 r1 = 7 ∧ zcal WP d n_Fa_tell [.inr (.inr r1), .inl a3] m2 h2 (zk1 fun r3 m3 h3 =>
      Q (some (.inl r3)) m3 h3)))))) : q_Es_held_0 d a0 a1 a2 a3 m h Q := zvc_ok zc_Es_held zm_Es_held 27 (fun _ => rfl) H
theorem e_Es_held (d : Nat) (a0 a1 a2 a3 : Int) (m : zM) (h : zH) (Q : zQ) (H : q_Es_held_0 d a0 a1 a2 a3 m h Q) : zcal WP (d + 1) n_Es_held [.inr (.inr a0), .inl a1, .inl a2, .inl a3] m h Q := zcal_mk rfl H
def zm_Es_bar : Nat → Option (List Bool) := fun pc => none
abbrev q_Es_bar_0 (d : Nat) (a0 a1 a2 : Int) (m : zM) (h : zH) (Q : zQ) : Prop := WP d n_Es_bar 0 [some (.inr (.inr a0)), some (.inl a1), some (.inl a2), none] [] m h Q
set_option maxRecDepth 100000 in
set_option maxHeartbeats 8000000 in
theorem s_Es_bar_0 (d : Nat) (a0 a1 a2 : Int) (m : zM) (h : zH) (Q : zQ) (H :
  kd h a0 = 12 ∧ kd h (m a0 2) = 2 ∧ zcal WP d n_Bd_factOf [.inr (.inr (m a0 2)), .inl a1, .inl a2, .inl 4] m h (zk3 fun r1 m1 h1 =>
  (r1 = 0 →
    Q (some (.inl ((-1)))) m1 h1) ∧
  (¬ (r1 = 0) →
    kd h1 a0 = 12 ∧ kd h1 (m1 a0 2) = 2 ∧ zcal WP d n_Bd_settle [.inr (.inr (m1 a0 2)), .inl a2, .inl 119, .inl 119] m1 h1 (zk0 fun m2 h2 =>
    kd h2 r1 = 7 ∧ ((m2 r1 9) ≠ 4 →
      Q (some (.inl ((-1)))) m2 h2) ∧
    (¬ ((m2 r1 9) ≠ 4) →
      kd h2 r1 = 7 ∧ Q (some (.inl (m2 r1 10))) m2 h2))))) : q_Es_bar_0 d a0 a1 a2 m h Q := zvc_ok zc_Es_bar zm_Es_bar 27 (fun _ => rfl) H
theorem e_Es_bar (d : Nat) (a0 a1 a2 : Int) (m : zM) (h : zH) (Q : zQ) (H : q_Es_bar_0 d a0 a1 a2 m h Q) : zcal WP (d + 1) n_Es_bar [.inr (.inr a0), .inl a1, .inl a2] m h Q := zcal_mk rfl H
def zm_Es_due : Nat → Option (List Bool) := fun pc => none
abbrev q_Es_due_0 (d : Nat) (a0 a1 a2 a3 : Int) (m : zM) (h : zH) (Q : zQ) : Prop := WP d n_Es_due 0 [some (.inr (.inr a0)), some (.inl a1), some (.inl a2), some (.inl a3)] [] m h Q
set_option maxRecDepth 100000 in
set_option maxHeartbeats 8000000 in
theorem s_Es_due_0 (d : Nat) (a0 a1 a2 a3 : Int) (m : zM) (h : zH) (Q : zQ) (H :
  kd h a0 = 12 ∧ kd h (m a0 2) = 2 ∧ zcal WP d n_Bd_isEngine [.inr (.inr (m a0 2)), .inl a1] m h (zk1 fun r1 m1 h1 =>
  (r1 = 0 →
    Q (some (.inl ((-1)))) m1 h1) ∧
  (¬ (r1 = 0) →
    zcal WP d n_Es_isDay [.inl a2] m1 h1 (zk1 fun r2 m2 h2 =>
    (r2 = 0 →
      Q (some (.inl ((-1)))) m2 h2) ∧
    (¬ (r2 = 0) →
      kd h2 a0 = 12 ∧ kd h2 (m2 a0 2) = 2 ∧ zcal WP d n_Bd_isKnown [.inr (.inr (m2 a0 2)), .inl a3] m2 h2 (zk1 fun r3 m3 h3 =>
      (r3 ≠ 0 →
        kd h3 a0 = 12 ∧ kd h3 (m3 a0 2) = 2 ∧ zcal WP d n_Bd_settle [.inr (.inr (m3 a0 2)), .inl a3, .inl (w32 (a2 - 1)), .inl a2] m3 h3 (zk0 fun m4 h4 =>
        kd h4 a0 = 12 ∧ kd h4 a0 = 12 ∧ kd h4 (m4 a0 2) = 2 ∧ kd h4 (m4 (m4 a0 2) 2) = 116 ∧ (0 : Int) ≤ a1 ∧ a1 < ln h4 (m4 (m4 a0 2) 2) ∧ kd h4 (m4 a0 2) = 2 ∧ zcal WP d n_Bd_isDue [.inr (.inr (m4 a0 2)), .inr (.inr (m4 (m4 (m4 a0 2) 2) a1)), .inl a2] m4 h4 (zk1 fun r5 m5 h5 =>
        (r5 = 0 →
          Q (some (.inl (0 : Int))) m5 h5) ∧
        (¬ (r5 = 0) →
          Q (some (.inl (1 : Int))) m5 h5)))) ∧
      (¬ (r3 ≠ 0) →
        Q (some (.inl ((-1)))) m3 h3))))))) : q_Es_due_0 d a0 a1 a2 a3 m h Q := zvc_ok zc_Es_due zm_Es_due 38 (fun _ => rfl) H
theorem e_Es_due (d : Nat) (a0 a1 a2 a3 : Int) (m : zM) (h : zH) (Q : zQ) (H : q_Es_due_0 d a0 a1 a2 a3 m h Q) : zcal WP (d + 1) n_Es_due [.inr (.inr a0), .inl a1, .inl a2, .inl a3] m h Q := zcal_mk rfl H
def zm_Es_beyond : Nat → Option (List Bool) := fun pc => none
abbrev q_Es_beyond_0 (d : Nat) (a0 a1 a2 a3 : Int) (m : zM) (h : zH) (Q : zQ) : Prop := WP d n_Es_beyond 0 [some (.inr (.inr a0)), some (.inl a1), some (.inl a2), some (.inl a3)] [] m h Q
set_option maxRecDepth 100000 in
set_option maxHeartbeats 8000000 in
theorem s_Es_beyond_0 (d : Nat) (a0 a1 a2 a3 : Int) (m : zM) (h : zH) (Q : zQ) (H :
  zcal WP d n_Es_isDay [.inl a1] m h (zk1 fun r1 m1 h1 =>
  (r1 = 0 →
    Q (some (.inl ((-1)))) m1 h1) ∧
  (¬ (r1 = 0) →
    zcal WP d n_Es_isDay [.inl a2] m1 h1 (zk1 fun r2 m2 h2 =>
    (r2 = 0 →
      Q (some (.inl ((-1)))) m2 h2) ∧
    (¬ (r2 = 0) →
      (a2 < a1 →
        Q (some (.inl ((-1)))) m2 h2) ∧
      (¬ (a2 < a1) →
        kd h2 a0 = 12 ∧ kd h2 (m2 a0 2) = 2 ∧ zcal WP d n_Bd_isKnown [.inr (.inr (m2 a0 2)), .inl a3] m2 h2 (zk1 fun r3 m3 h3 =>
        (r3 ≠ 0 →
          kd h3 a0 = 12 ∧ kd h3 (m3 a0 2) = 2 ∧ zcal WP d n_Bd_settle [.inr (.inr (m3 a0 2)), .inl a3, .inl 119, .inl 119] m3 h3 (zk0 fun m4 h4 =>
          kd h4 a0 = 12 ∧ kd h4 (m4 a0 2) = 2 ∧ zcal WP d n_Bd_countBeyond [.inr (.inr (m4 a0 2)), .inl a1, .inl a2, .inl a3] m4 h4 (zk1 fun r5 m5 h5 =>
          Q (some (.inl r5)) m5 h5))) ∧
        (¬ (r3 ≠ 0) →
          Q (some (.inl ((-1)))) m3 h3)))))))) : q_Es_beyond_0 d a0 a1 a2 a3 m h Q := zvc_ok zc_Es_beyond zm_Es_beyond 30 (fun _ => rfl) H
theorem e_Es_beyond (d : Nat) (a0 a1 a2 a3 : Int) (m : zM) (h : zH) (Q : zQ) (H : q_Es_beyond_0 d a0 a1 a2 a3 m h Q) : zcal WP (d + 1) n_Es_beyond [.inr (.inr a0), .inl a1, .inl a2, .inl a3] m h Q := zcal_mk rfl H
def zm_Es_help : Nat → Option (List Bool) := fun pc => none
abbrev q_Es_help_0 (d : Nat) (a0 a1 a2 : Int) (m : zM) (h : zH) (Q : zQ) : Prop := WP d n_Es_help 0 [some (.inr (.inr a0)), some (.inl a1), some (.inl a2), none] [] m h Q
set_option maxRecDepth 100000 in
set_option maxHeartbeats 8000000 in
theorem s_Es_help_0 (d : Nat) (a0 a1 a2 : Int) (m : zM) (h : zH) (Q : zQ) (H :
  kd h a0 = 12 ∧ kd h (m a0 2) = 2 ∧ zcal WP d n_Bd_factOf [.inr (.inr (m a0 2)), .inl a1, .inl a2, .inl 7] m h (zk3 fun r1 m1 h1 =>
  (r1 = 0 →
    Q (some (.inl ((-1)))) m1 h1) ∧
  (¬ (r1 = 0) →
    kd h1 a0 = 12 ∧ kd h1 (m1 a0 2) = 2 ∧ zcal WP d n_Bd_settle [.inr (.inr (m1 a0 2)), .inl a2, .inl 119, .inl 119] m1 h1 (zk0 fun m2 h2 =>
    kd h2 r1 = 7 ∧ ((m2 r1 17) = 0 →
      Q (some (.inl ((-1)))) m2 h2) ∧
    (¬ ((m2 r1 17) = 0) →
      kd h2 a0 = 12 ∧ kd h2 (m2 a0 2) = 2 ∧ zcal WP d n_Bd_helper [.inr (.inr (m2 a0 2)), .inr (.inr r1), .inl a2] m2 h2 (zk1 fun r3 m3 h3 =>
      Q (some (.inl r3)) m3 h3)))))) : q_Es_help_0 d a0 a1 a2 m h Q := zvc_ok zc_Es_help zm_Es_help 29 (fun _ => rfl) H
theorem e_Es_help (d : Nat) (a0 a1 a2 : Int) (m : zM) (h : zH) (Q : zQ) (H : q_Es_help_0 d a0 a1 a2 m h Q) : zcal WP (d + 1) n_Es_help [.inr (.inr a0), .inl a1, .inl a2] m h Q := zcal_mk rfl H
def zm_Es_coal : Nat → Option (List Bool) := fun pc => none
abbrev q_Es_coal_0 (d : Nat) (a0 a1 a2 a3 : Int) (m : zM) (h : zH) (Q : zQ) : Prop := WP d n_Es_coal 0 [some (.inr (.inr a0)), some (.inl a1), some (.inl a2), some (.inl a3)] [] m h Q
set_option maxRecDepth 100000 in
set_option maxHeartbeats 8000000 in
theorem s_Es_coal_0 (d : Nat) (a0 a1 a2 a3 : Int) (m : zM) (h : zH) (Q : zQ) (H :
  kd h a0 = 12 ∧ kd h (m a0 2) = 2 ∧ zcal WP d n_Bd_isShed [.inr (.inr (m a0 2)), .inl a1] m h (zk1 fun r1 m1 h1 =>
  (r1 = 0 →
    Q (some (.inl ((-1000000)))) m1 h1) ∧
  (¬ (r1 = 0) →
    zcal WP d n_Es_isDay [.inl a2] m1 h1 (zk1 fun r2 m2 h2 =>
    (r2 = 0 →
      Q (some (.inl ((-1000000)))) m2 h2) ∧
    (¬ (r2 = 0) →
      kd h2 a0 = 12 ∧ kd h2 (m2 a0 2) = 2 ∧ zcal WP d n_Bd_isKnown [.inr (.inr (m2 a0 2)), .inl a3] m2 h2 (zk1 fun r3 m3 h3 =>
      (r3 ≠ 0 →
        kd h3 a0 = 12 ∧ kd h3 (m3 a0 2) = 2 ∧ zcal WP d n_Bd_settle [.inr (.inr (m3 a0 2)), .inl a3, .inl 119, .inl 119] m3 h3 (zk0 fun m4 h4 =>
        kd h4 a0 = 12 ∧ kd h4 (m4 a0 2) = 2 ∧ zcal WP d n_Bd_coalLeft [.inr (.inr (m4 a0 2)), .inl a1, .inl a2, .inl a3] m4 h4 (zk1 fun r5 m5 h5 =>
        Q (some (.inl r5)) m5 h5))) ∧
      (¬ (r3 ≠ 0) →
        Q (some (.inl ((-1000000)))) m3 h3))))))) : q_Es_coal_0 d a0 a1 a2 a3 m h Q := zvc_ok zc_Es_coal zm_Es_coal 29 (fun _ => rfl) H
theorem e_Es_coal (d : Nat) (a0 a1 a2 a3 : Int) (m : zM) (h : zH) (Q : zQ) (H : q_Es_coal_0 d a0 a1 a2 a3 m h Q) : zcal WP (d + 1) n_Es_coal [.inr (.inr a0), .inl a1, .inl a2, .inl a3] m h Q := zcal_mk rfl H
def zm_Es_owes : Nat → Option (List Bool) := fun pc => bif Nat.beq pc 32 then some [true, true, true, true, true, true, false] else (bif Nat.beq pc 51 then some [true, true, true, true, true, true, false] else (none))
abbrev q_Es_owes_0 (d : Nat) (a0 a1 a2 a3 a4 a5 : Int) (m : zM) (h : zH) (Q : zQ) : Prop := WP d n_Es_owes 0 [some (.inr (.inr a0)), some (.inl a1), some (.inl a2), some (.inl a3), some (.inl a4), some (.inl a5), none] [] m h Q
abbrev q_Es_owes_32 (d : Nat) (a0 a1 a2 a3 a4 a5 s0 : Int) (m : zM) (h : zH) (Q : zQ) : Prop := WP d n_Es_owes 32 [some (.inr (.inr a0)), some (.inl a1), some (.inl a2), some (.inl a3), some (.inl a4), some (.inl a5), none] [.inl s0] m h Q
abbrev q_Es_owes_51 (d : Nat) (a0 a1 a2 a3 a4 a5 : Int) (m : zM) (h : zH) (Q : zQ) : Prop := WP d n_Es_owes 51 [some (.inr (.inr a0)), some (.inl a1), some (.inl a2), some (.inl a3), some (.inl a4), some (.inl a5), none] [] m h Q
set_option maxRecDepth 100000 in
set_option maxHeartbeats 8000000 in
theorem s_Es_owes_0 (d : Nat) (a0 a1 a2 a3 a4 a5 : Int) (m : zM) (h : zH) (Q : zQ) (H :
  kd h a0 = 12 ∧ kd h (m a0 2) = 2 ∧ zcal WP d n_Bd_isShed [.inr (.inr (m a0 2)), .inl a1] m h (zk1 fun r1 m1 h1 =>
  (r1 = 0 →
    q_Es_owes_32 d a0 a1 a2 a3 a4 a5 0 m1 h1 Q) ∧
  (¬ (r1 = 0) →
    kd h1 a0 = 12 ∧ kd h1 (m1 a0 2) = 2 ∧ zcal WP d n_Bd_isShed [.inr (.inr (m1 a0 2)), .inl a2] m1 h1 (zk1 fun r2 m2 h2 =>
    (r2 = 0 →
      q_Es_owes_32 d a0 a1 a2 a3 a4 a5 0 m2 h2 Q) ∧
    (¬ (r2 = 0) →
      (a1 = a2 →
        q_Es_owes_32 d a0 a1 a2 a3 a4 a5 0 m2 h2 Q) ∧
      (¬ (a1 = a2) →
        q_Es_owes_32 d a0 a1 a2 a3 a4 a5 1 m2 h2 Q)))))) : q_Es_owes_0 d a0 a1 a2 a3 a4 a5 m h Q := zvc_ok zc_Es_owes zm_Es_owes 56 (fun _ => rfl) H
set_option maxRecDepth 100000 in
set_option maxHeartbeats 8000000 in
theorem s_Es_owes_32 (d : Nat) (a0 a1 a2 a3 a4 a5 s0 : Int) (m : zM) (h : zH) (Q : zQ) (H :
  (s0 = 0 →
    Q (some (.inl ((-1000000)))) m h) ∧
  (¬ (s0 = 0) →
    zcal WP d n_Es_isClass [.inl a3] m h (zk1 fun r1 m1 h1 =>
    (r1 ≠ 0 →
      q_Es_owes_51 d a0 a1 a2 a3 a4 a5 m1 h1 Q) ∧
    (¬ (r1 ≠ 0) →
      (a3 ≠ ((-1)) →
        Q (some (.inl ((-1000000)))) m1 h1) ∧
      (¬ (a3 ≠ ((-1))) →
        q_Es_owes_51 d a0 a1 a2 a3 a4 a5 m1 h1 Q))))) : q_Es_owes_32 d a0 a1 a2 a3 a4 a5 s0 m h Q := zvc_ok zc_Es_owes zm_Es_owes 56 (fun _ => rfl) H
set_option maxRecDepth 100000 in
set_option maxHeartbeats 8000000 in
theorem s_Es_owes_51 (d : Nat) (a0 a1 a2 a3 a4 a5 : Int) (m : zM) (h : zH) (Q : zQ) (H :
  zcal WP d n_Es_isDay [.inl a4] m h (zk1 fun r1 m1 h1 =>
  (r1 = 0 →
    Q (some (.inl ((-1000000)))) m1 h1) ∧
  (¬ (r1 = 0) →
    kd h1 a0 = 12 ∧ kd h1 (m1 a0 2) = 2 ∧ zcal WP d n_Bd_isKnown [.inr (.inr (m1 a0 2)), .inl a5] m1 h1 (zk1 fun r2 m2 h2 =>
    (r2 ≠ 0 →
      kd h2 a0 = 12 ∧ kd h2 (m2 a0 2) = 2 ∧ zcal WP d n_Bd_settle [.inr (.inr (m2 a0 2)), .inl a5, .inl a4, .inl a4] m2 h2 (zk0 fun m3 h3 =>
      kd h3 a0 = 12 ∧ kd h3 (m3 a0 2) = 2 ∧ zcal WP d n_Bd_countKept [.inr (.inr (m3 a0 2)), .inl a1, .inl a2, .inl a3] m3 h3 (zk1 fun r4 m4 h4 =>
      kd h4 a0 = 12 ∧ kd h4 (m4 a0 2) = 2 ∧ zcal WP d n_Bd_countKept [.inr (.inr (m4 a0 2)), .inl a2, .inl a1, .inl a3] m4 h4 (zk1 fun r5 m5 h5 =>
      Q (some (.inl (w32 (r4 - r5)))) m5 h5)))) ∧
    (¬ (r2 ≠ 0) →
      Q (some (.inl ((-1000000)))) m2 h2))))) : q_Es_owes_51 d a0 a1 a2 a3 a4 a5 m h Q := zvc_ok zc_Es_owes zm_Es_owes 56 (fun _ => rfl) H
theorem e_Es_owes (d : Nat) (a0 a1 a2 a3 a4 a5 : Int) (m : zM) (h : zH) (Q : zQ) (H : q_Es_owes_0 d a0 a1 a2 a3 a4 a5 m h Q) : zcal WP (d + 1) n_Es_owes [.inr (.inr a0), .inl a1, .inl a2, .inl a3, .inl a4, .inl a5] m h Q := zcal_mk rfl H
def zm_Es_best : Nat → Option (List Bool) := fun pc => bif Nat.beq pc 25 then some [true, true, true, true, false] else (none)
abbrev q_Es_best_0 (d : Nat) (a0 a1 a2 a3 : Int) (m : zM) (h : zH) (Q : zQ) : Prop := WP d n_Es_best 0 [some (.inr (.inr a0)), some (.inl a1), some (.inl a2), some (.inl a3), none] [] m h Q
abbrev q_Es_best_25 (d : Nat) (a0 a1 a2 a3 s0 : Int) (m : zM) (h : zH) (Q : zQ) : Prop := WP d n_Es_best 25 [some (.inr (.inr a0)), some (.inl a1), some (.inl a2), some (.inl a3), none] [.inl s0] m h Q
set_option maxRecDepth 100000 in
set_option maxHeartbeats 8000000 in
theorem s_Es_best_0 (d : Nat) (a0 a1 a2 a3 : Int) (m : zM) (h : zH) (Q : zQ) (H :
  kd h a0 = 12 ∧ kd h (m a0 2) = 2 ∧ zcal WP d n_Bd_areTurns [.inr (.inr (m a0 2)), .inl a2] m h (zk1 fun r1 m1 h1 =>
  (r1 = 0 →
    q_Es_best_25 d a0 a1 a2 a3 0 m1 h1 Q) ∧
  (¬ (r1 = 0) →
    zcal WP d n_Jn_bitCount [.inl a2] m1 h1 (zk1 fun r2 m2 h2 =>
    ((8 : Int) < r2 →
      q_Es_best_25 d a0 a1 a2 a3 0 m2 h2 Q) ∧
    (¬ ((8 : Int) < r2) →
      q_Es_best_25 d a0 a1 a2 a3 1 m2 h2 Q))))) : q_Es_best_0 d a0 a1 a2 a3 m h Q := zvc_ok zc_Es_best zm_Es_best 48 (fun _ => rfl) H
set_option maxRecDepth 100000 in
set_option maxHeartbeats 8000000 in
theorem s_Es_best_25 (d : Nat) (a0 a1 a2 a3 s0 : Int) (m : zM) (h : zH) (Q : zQ) (H :
  zcal WP d n_Es_isDay [.inl a1] m h (zk1 fun r1 m1 h1 =>
  (r1 = 0 →
    Q (some (.inl ((-1)))) m1 h1) ∧
  (¬ (r1 = 0) →
    (s0 = 0 →
      Q (some (.inl ((-1)))) m1 h1) ∧
    (¬ (s0 = 0) →
      kd h1 a0 = 12 ∧ kd h1 (m1 a0 2) = 2 ∧ zcal WP d n_Bd_isKnown [.inr (.inr (m1 a0 2)), .inl a3] m1 h1 (zk1 fun r2 m2 h2 =>
      (r2 ≠ 0 →
        kd h2 a0 = 12 ∧ kd h2 (m2 a0 2) = 2 ∧ zcal WP d n_Bd_settle [.inr (.inr (m2 a0 2)), .inl a3, .inl (w32 (a1 - 1)), .inl a1] m2 h2 (zk0 fun m3 h3 =>
        kd h3 a0 = 12 ∧ kd h3 a0 = 12 ∧ kd h3 (m3 a0 3) = 5 ∧ zcal WP d n_Du_ask [.inr (.inr (m3 a0 3)), .inr (.inr (m3 a0 2)), .inl a1, .inl a2] m3 h3 (zk0 fun m4 h4 =>
        kd h4 a0 = 12 ∧ kd h4 a0 = 12 ∧ kd h4 (m4 a0 2) = 2 ∧ kd h4 (m4 a0 3) = 5 ∧ zcal WP d n_Du_solve [.inr (.inr (m4 a0 3)), .inl (m4 (m4 a0 2) 3)] m4 h4 (zk1 fun r5 m5 h5 =>
        Q (some (.inl r5)) m5 h5)))) ∧
      (¬ (r2 ≠ 0) →
        Q (some (.inl ((-1)))) m2 h2)))))) : q_Es_best_25 d a0 a1 a2 a3 s0 m h Q := zvc_ok zc_Es_best zm_Es_best 48 (fun _ => rfl) H
theorem e_Es_best (d : Nat) (a0 a1 a2 a3 : Int) (m : zM) (h : zH) (Q : zQ) (H : q_Es_best_0 d a0 a1 a2 a3 m h Q) : zcal WP (d + 1) n_Es_best [.inr (.inr a0), .inl a1, .inl a2, .inl a3] m h Q := zcal_mk rfl H
def zm_Es_given : Nat → Option (List Bool) := fun pc => none
abbrev q_Es_given_0 (d : Nat) (a0 a1 : Int) (m : zM) (h : zH) (Q : zQ) : Prop := WP d n_Es_given 0 [some (.inr (.inr a0)), some (.inl a1)] [] m h Q
set_option maxRecDepth 100000 in
set_option maxHeartbeats 8000000 in
theorem s_Es_given_0 (d : Nat) (a0 a1 : Int) (m : zM) (h : zH) (Q : zQ) (H :
  kd h a0 = 12 ∧ kd h (m a0 2) = 2 ∧ zcal WP d n_Bd_isTurn [.inr (.inr (m a0 2)), .inl a1] m h (zk1 fun r1 m1 h1 =>
  (r1 = 0 →
    Q (some (.inl ((-1)))) m1 h1) ∧
  (¬ (r1 = 0) →
    kd h1 a0 = 12 ∧ kd h1 (m1 a0 3) = 5 ∧ kd h1 (m1 (m1 a0 3) 0) = 101 ∧ (0 : Int) ≤ a1 ∧ a1 < ln h1 (m1 (m1 a0 3) 0) ∧ Q (some (.inl (m1 (m1 (m1 a0 3) 0) a1))) m1 h1))) : q_Es_given_0 d a0 a1 m h Q := zvc_ok zc_Es_given zm_Es_given 14 (fun _ => rfl) H
theorem e_Es_given (d : Nat) (a0 a1 : Int) (m : zM) (h : zH) (Q : zQ) (H : q_Es_given_0 d a0 a1 m h Q) : zcal WP (d + 1) n_Es_given [.inr (.inr a0), .inl a1] m h Q := zcal_mk rfl H
def zm_Es_lack : Nat → Option (List Bool) := fun pc => none
abbrev q_Es_lack_0 (d : Nat) (a0 : Int) (m : zM) (h : zH) (Q : zQ) : Prop := WP d n_Es_lack 0 [some (.inr (.inr a0))] [] m h Q
set_option maxRecDepth 100000 in
set_option maxHeartbeats 8000000 in
theorem s_Es_lack_0 (d : Nat) (a0 : Int) (m : zM) (h : zH) (Q : zQ) (H :
  kd h a0 = 12 ∧ kd h (m a0 3) = 5 ∧ Q (some (.inl (m (m a0 3) 1))) m h) : q_Es_lack_0 d a0 m h Q := zvc_ok zc_Es_lack zm_Es_lack 5 (fun _ => rfl) H
theorem e_Es_lack (d : Nat) (a0 : Int) (m : zM) (h : zH) (Q : zQ) (H : q_Es_lack_0 d a0 m h Q) : zcal WP (d + 1) n_Es_lack [.inr (.inr a0)] m h Q := zcal_mk rfl H
def zm_Es_lines : Nat → Option (List Bool) := fun pc => none
abbrev q_Es_lines_0 (d : Nat) (a0 a1 a2 : Int) (m : zM) (h : zH) (Q : zQ) : Prop := WP d n_Es_lines 0 [some (.inr (.inr a0)), some (.inl a1), some (.inl a2)] [] m h Q
set_option maxRecDepth 100000 in
set_option maxHeartbeats 8000000 in
theorem s_Es_lines_0 (d : Nat) (a0 a1 a2 : Int) (m : zM) (h : zH) (Q : zQ) (H :
  kd h a0 = 12 ∧ kd h (m a0 2) = 2 ∧ zcal WP d n_Bd_isEngine [.inr (.inr (m a0 2)), .inl a2] m h (zk1 fun r1 m1 h1 =>
  (r1 = 0 →
    Q (some (.inl ((-1)))) m1 h1) ∧
  (¬ (r1 = 0) →
    kd h1 a0 = 12 ∧ kd h1 (m1 a0 4) = 9 ∧ zcal WP d n_St_join [.inr (.inr (m1 a0 4)), .inl a1, .inl a2] m1 h1 (zk1 fun r2 m2 h2 =>
    Q (some (.inl r2)) m2 h2)))) : q_Es_lines_0 d a0 a1 a2 m h Q := zvc_ok zc_Es_lines zm_Es_lines 14 (fun _ => rfl) H
theorem e_Es_lines (d : Nat) (a0 a1 a2 : Int) (m : zM) (h : zH) (Q : zQ) (H : q_Es_lines_0 d a0 a1 a2 m h Q) : zcal WP (d + 1) n_Es_lines [.inr (.inr a0), .inl a1, .inl a2] m h Q := zcal_mk rfl H
def zm_Es_clear : Nat → Option (List Bool) := fun pc => none
abbrev q_Es_clear_0 (d : Nat) (a0 : Int) (m : zM) (h : zH) (Q : zQ) : Prop := WP d n_Es_clear 0 [some (.inr (.inr a0))] [] m h Q
set_option maxRecDepth 100000 in
set_option maxHeartbeats 8000000 in
theorem s_Es_clear_0 (d : Nat) (a0 : Int) (m : zM) (h : zH) (Q : zQ) (H :
  kd h a0 = 12 ∧ kd h (m a0 4) = 9 ∧ 0 < (m a0 4) ∧ ∀ m1, m1 = zwr m (m a0 4) 0 0 →
  kd h a0 = 12 ∧ kd h (m1 a0 4) = 9 ∧ 0 < (m1 a0 4) ∧ ∀ m2, m2 = zwr m1 (m1 a0 4) 1 0 →
  Q none m2 h) : q_Es_clear_0 d a0 m h Q := zvc_ok zc_Es_clear zm_Es_clear 10 (fun _ => rfl) H
theorem e_Es_clear (d : Nat) (a0 : Int) (m : zM) (h : zH) (Q : zQ) (H : q_Es_clear_0 d a0 m h Q) : zcal WP (d + 1) n_Es_clear [.inr (.inr a0)] m h Q := zcal_mk rfl H
def zm_Es_roads : Nat → Option (List Bool) := fun pc => none
abbrev q_Es_roads_0 (d : Nat) (a0 a1 : Int) (m : zM) (h : zH) (Q : zQ) : Prop := WP d n_Es_roads 0 [some (.inr (.inr a0)), some (.inl a1)] [] m h Q
set_option maxRecDepth 100000 in
set_option maxHeartbeats 8000000 in
theorem s_Es_roads_0 (d : Nat) (a0 a1 : Int) (m : zM) (h : zH) (Q : zQ) (H :
  zcal WP d n_Es_within [.inl a1, .inl 1, .inl 3] m h (zk1 fun r1 m1 h1 =>
  (r1 = 0 →
    Q (some (.inl ((-1)))) m1 h1) ∧
  (¬ (r1 = 0) →
    kd h1 a0 = 12 ∧ kd h1 (m1 a0 4) = 9 ∧ zcal WP d n_St_rank [.inr (.inr (m1 a0 4))] m1 h1 (zk1 fun r2 m2 h2 =>
    (r2 = 0 →
      Q (some (.inl ((-1)))) m2 h2) ∧
    (¬ (r2 = 0) →
      kd h2 a0 = 12 ∧ kd h2 (m2 a0 4) = 9 ∧ zcal WP d n_St_solve [.inr (.inr (m2 a0 4)), .inl a1] m2 h2 (zk1 fun r3 m3 h3 =>
      Q (some (.inl r3)) m3 h3)))))) : q_Es_roads_0 d a0 a1 m h Q := zvc_ok zc_Es_roads zm_Es_roads 17 (fun _ => rfl) H
theorem e_Es_roads (d : Nat) (a0 a1 : Int) (m : zM) (h : zH) (Q : zQ) (H : q_Es_roads_0 d a0 a1 m h Q) : zcal WP (d + 1) n_Es_roads [.inr (.inr a0), .inl a1] m h Q := zcal_mk rfl H
def zm_Es_road : Nat → Option (List Bool) := fun pc => none
abbrev q_Es_road_0 (d : Nat) (a0 a1 : Int) (m : zM) (h : zH) (Q : zQ) : Prop := WP d n_Es_road 0 [some (.inr (.inr a0)), some (.inl a1)] [] m h Q
set_option maxRecDepth 100000 in
set_option maxHeartbeats 8000000 in
theorem s_Es_road_0 (d : Nat) (a0 a1 : Int) (m : zM) (h : zH) (Q : zQ) (H :
  kd h a0 = 12 ∧ kd h (m a0 2) = 2 ∧ zcal WP d n_Bd_isEngine [.inr (.inr (m a0 2)), .inl a1] m h (zk1 fun r1 m1 h1 =>
  (r1 = 0 →
    Q (some (.inl ((-1)))) m1 h1) ∧
  (¬ (r1 = 0) →
    kd h1 a0 = 12 ∧ kd h1 (m1 a0 4) = 9 ∧ kd h1 (m1 (m1 a0 4) 2) = 101 ∧ (0 : Int) ≤ a1 ∧ a1 < ln h1 (m1 (m1 a0 4) 2) ∧ Q (some (.inl (m1 (m1 (m1 a0 4) 2) a1))) m1 h1))) : q_Es_road_0 d a0 a1 m h Q := zvc_ok zc_Es_road zm_Es_road 14 (fun _ => rfl) H
theorem e_Es_road (d : Nat) (a0 a1 : Int) (m : zM) (h : zH) (Q : zQ) (H : q_Es_road_0 d a0 a1 m h Q) : zcal WP (d + 1) n_Es_road [.inr (.inr a0), .inl a1] m h Q := zcal_mk rfl H
def zm_Es_may : Nat → Option (List Bool) := fun pc => none
abbrev q_Es_may_0 (d : Nat) (a0 a1 a2 a3 : Int) (m : zM) (h : zH) (Q : zQ) : Prop := WP d n_Es_may 0 [some (.inr (.inr a0)), some (.inl a1), some (.inl a2), some (.inl a3), none] [] m h Q
set_option maxRecDepth 100000 in
set_option maxHeartbeats 8000000 in
theorem s_Es_may_0 (d : Nat) (a0 a1 a2 a3 : Int) (m : zM) (h : zH) (Q : zQ) (H :
  zcal WP d n_Es_isClass [.inl a1] m h (zk1 fun r1 m1 h1 =>
  (r1 = 0 →
    ((0 : Int) = 0 ∨ (0 : Int) = 1) ∧ Q (some (.inl (0 : Int))) m1 h1) ∧
  (¬ (r1 = 0) →
    kd h1 a0 = 12 ∧ kd h1 (m1 a0 2) = 2 ∧ zcal WP d n_Bd_isTurn [.inr (.inr (m1 a0 2)), .inl a2] m1 h1 (zk1 fun r2 m2 h2 =>
    (r2 ≠ 0 →
      kd h2 a0 = 12 ∧ kd h2 (m2 a0 5) = 4 ∧ (a3 = 0 →
        kd h2 a0 = 12 ∧ kd h2 (m2 a0 5) = 4 ∧ kd h2 (m2 (m2 a0 5) 0) = 101 ∧ (0 : Int) ≤ a2 ∧ a2 < ln h2 (m2 (m2 a0 5) 0) ∧ kd h2 (m2 (m2 a0 5) 0) = 101 ∧ 0 < (m2 (m2 a0 5) 0) ∧ (0 : Int) ≤ a2 ∧ a2 < ln h2 (m2 (m2 a0 5) 0) ∧ ∀ m3, m3 = zwr m2 (m2 (m2 a0 5) 0) a2 (zor (m2 (m2 (m2 a0 5) 0) a2) (zshl 1 a1)) →
        ((1 : Int) = 0 ∨ (1 : Int) = 1) ∧ Q (some (.inl (1 : Int))) m3 h2) ∧
      (¬ (a3 = 0) →
        kd h2 a0 = 12 ∧ kd h2 (m2 a0 5) = 4 ∧ kd h2 (m2 (m2 a0 5) 0) = 101 ∧ (0 : Int) ≤ a2 ∧ a2 < ln h2 (m2 (m2 a0 5) 0) ∧ kd h2 (m2 (m2 a0 5) 0) = 101 ∧ 0 < (m2 (m2 a0 5) 0) ∧ (0 : Int) ≤ a2 ∧ a2 < ln h2 (m2 (m2 a0 5) 0) ∧ ∀ m3, m3 = zwr m2 (m2 (m2 a0 5) 0) a2 (zand (m2 (m2 (m2 a0 5) 0) a2) (zxor (zshl 1 a1) ((-1)))) →
        ((1 : Int) = 0 ∨ (1 : Int) = 1) ∧ Q (some (.inl (1 : Int))) m3 h2)) ∧
    (¬ (r2 ≠ 0) →
      ((0 : Int) = 0 ∨ (0 : Int) = 1) ∧ Q (some (.inl (0 : Int))) m2 h2))))) : q_Es_may_0 d a0 a1 a2 a3 m h Q := zvc_ok zc_Es_may zm_Es_may 41 (fun _ => rfl) H
theorem e_Es_may (d : Nat) (a0 a1 a2 a3 : Int) (m : zM) (h : zH) (Q : zQ) (H : q_Es_may_0 d a0 a1 a2 a3 m h Q) : zcal WP (d + 1) n_Es_may [.inr (.inr a0), .inl a1, .inl a2, .inl a3] m h Q := zcal_mk rfl H
def zm_Es_months : Nat → Option (List Bool) := fun pc => bif Nat.beq pc 28 then some [true, true, true, true, true, true, false, false] else (bif Nat.beq pc 57 then some [true, true, true, true, true, true, true, false] else (none))
abbrev q_Es_months_0 (d : Nat) (a0 a1 a2 a3 a4 a5 : Int) (m : zM) (h : zH) (Q : zQ) : Prop := WP d n_Es_months 0 [some (.inr (.inr a0)), some (.inl a1), some (.inl a2), some (.inl a3), some (.inl a4), some (.inl a5), none, none] [] m h Q
abbrev q_Es_months_28 (d : Nat) (a0 a1 a2 a3 a4 a5 s0 : Int) (m : zM) (h : zH) (Q : zQ) : Prop := WP d n_Es_months 28 [some (.inr (.inr a0)), some (.inl a1), some (.inl a2), some (.inl a3), some (.inl a4), some (.inl a5), none, none] [.inl s0] m h Q
abbrev q_Es_months_57 (d : Nat) (a0 a1 a2 a3 a4 a5 a6 s0 : Int) (m : zM) (h : zH) (Q : zQ) : Prop := WP d n_Es_months 57 [some (.inr (.inr a0)), some (.inl a1), some (.inl a2), some (.inl a3), some (.inl a4), some (.inl a5), some (.inl a6), none] [.inl s0] m h Q
set_option maxRecDepth 100000 in
set_option maxHeartbeats 8000000 in
theorem s_Es_months_0 (d : Nat) (a0 a1 a2 a3 a4 a5 : Int) (m : zM) (h : zH) (Q : zQ) (H :
  kd h a0 = 12 ∧ kd h (m a0 2) = 2 ∧ zcal WP d n_Bd_areEngines [.inr (.inr (m a0 2)), .inl a1] m h (zk1 fun r1 m1 h1 =>
  (r1 = 0 →
    q_Es_months_28 d a0 a1 a2 a3 a4 a5 0 m1 h1 Q) ∧
  (¬ (r1 = 0) →
    zcal WP d n_Jn_bitCount [.inl a1] m1 h1 (zk1 fun r2 m2 h2 =>
    zcal WP d n_Es_within [.inl r2, .inl 1, .inl 5] m2 h2 (zk1 fun r3 m3 h3 =>
    (r3 = 0 →
      q_Es_months_28 d a0 a1 a2 a3 a4 a5 0 m3 h3 Q) ∧
    (¬ (r3 = 0) →
      q_Es_months_28 d a0 a1 a2 a3 a4 a5 1 m3 h3 Q)))))) : q_Es_months_0 d a0 a1 a2 a3 a4 a5 m h Q := zvc_ok zc_Es_months zm_Es_months 68 (fun _ => rfl) H
set_option maxRecDepth 100000 in
set_option maxHeartbeats 8000000 in
theorem s_Es_months_28 (d : Nat) (a0 a1 a2 a3 a4 a5 s0 : Int) (m : zM) (h : zH) (Q : zQ) (H :
  kd h a0 = 12 ∧ kd h (m a0 2) = 2 ∧ zcal WP d n_Bd_areTurns [.inr (.inr (m a0 2)), .inl a4] m h (zk1 fun r1 m1 h1 =>
  (r1 = 0 →
    q_Es_months_57 d a0 a1 a2 a3 a4 a5 s0 0 m1 h1 Q) ∧
  (¬ (r1 = 0) →
    zcal WP d n_Jn_bitCount [.inl a4] m1 h1 (zk1 fun r2 m2 h2 =>
    ((8 : Int) < r2 →
      q_Es_months_57 d a0 a1 a2 a3 a4 a5 s0 0 m2 h2 Q) ∧
    (¬ ((8 : Int) < r2) →
      q_Es_months_57 d a0 a1 a2 a3 a4 a5 s0 1 m2 h2 Q))))) : q_Es_months_28 d a0 a1 a2 a3 a4 a5 s0 m h Q := zvc_ok zc_Es_months zm_Es_months 68 (fun _ => rfl) H
set_option maxRecDepth 100000 in
set_option maxHeartbeats 8000000 in
theorem s_Es_months_57 (d : Nat) (a0 a1 a2 a3 a4 a5 a6 s0 : Int) (m : zM) (h : zH) (Q : zQ) (H :
  (a6 = 0 →
    Q (some (.inl ((-1)))) m h) ∧
  (¬ (a6 = 0) →
    (s0 = 0 →
      Q (some (.inl ((-1)))) m h) ∧
    (¬ (s0 = 0) →
      zcal WP d n_Es_within [.inl a2, .inl 1, .inl 5] m h (zk1 fun r1 m1 h1 =>
      (r1 = 0 →
        Q (some (.inl ((-1)))) m1 h1) ∧
      (¬ (r1 = 0) →
        zcal WP d n_Es_within [.inl a3, .inl 1, .inl 5] m1 h1 (zk1 fun r2 m2 h2 =>
        (r2 = 0 →
          Q (some (.inl ((-1)))) m2 h2) ∧
        (¬ (r2 = 0) →
          zcal WP d n_Es_within [.inl a5, .inl 0, .inl 1] m2 h2 (zk1 fun r3 m3 h3 =>
          (r3 ≠ 0 →
            kd h3 a0 = 12 ∧ kd h3 a0 = 12 ∧ kd h3 (m3 a0 5) = 4 ∧ zcal WP d n_Cd_ask [.inr (.inr (m3 a0 5)), .inr (.inr (m3 a0 2)), .inl a1, .inl a4] m3 h3 (zk0 fun m4 h4 =>
            kd h4 a0 = 12 ∧ kd h4 (m4 a0 5) = 4 ∧ zcal WP d n_Cd_solve [.inr (.inr (m4 a0 5)), .inl a2, .inl a3, .inl a5] m4 h4 (zk1 fun r5 m5 h5 =>
            (r5 = 0 →
              Q (some (.inl ((-2)))) m5 h5) ∧
            (¬ (r5 = 0) →
              Q (some (.inl (0 : Int))) m5 h5)))) ∧
          (¬ (r3 ≠ 0) →
            Q (some (.inl ((-1)))) m3 h3))))))))) : q_Es_months_57 d a0 a1 a2 a3 a4 a5 a6 s0 m h Q := zvc_ok zc_Es_months zm_Es_months 68 (fun _ => rfl) H
theorem e_Es_months (d : Nat) (a0 a1 a2 a3 a4 a5 : Int) (m : zM) (h : zH) (Q : zQ) (H : q_Es_months_0 d a0 a1 a2 a3 a4 a5 m h Q) : zcal WP (d + 1) n_Es_months [.inr (.inr a0), .inl a1, .inl a2, .inl a3, .inl a4, .inl a5] m h Q := zcal_mk rfl H
def zm_Es_month : Nat → Option (List Bool) := fun pc => none
abbrev q_Es_month_0 (d : Nat) (a0 a1 : Int) (m : zM) (h : zH) (Q : zQ) : Prop := WP d n_Es_month 0 [some (.inr (.inr a0)), some (.inl a1)] [] m h Q
set_option maxRecDepth 100000 in
set_option maxHeartbeats 8000000 in
theorem s_Es_month_0 (d : Nat) (a0 a1 : Int) (m : zM) (h : zH) (Q : zQ) (H :
  kd h a0 = 12 ∧ kd h (m a0 2) = 2 ∧ zcal WP d n_Bd_isEngine [.inr (.inr (m a0 2)), .inl a1] m h (zk1 fun r1 m1 h1 =>
  (r1 = 0 →
    Q (some (.inl ((-1)))) m1 h1) ∧
  (¬ (r1 = 0) →
    kd h1 a0 = 12 ∧ kd h1 (m1 a0 5) = 4 ∧ kd h1 (m1 (m1 a0 5) 1) = 101 ∧ (0 : Int) ≤ a1 ∧ a1 < ln h1 (m1 (m1 a0 5) 1) ∧ Q (some (.inl (m1 (m1 (m1 a0 5) 1) a1))) m1 h1))) : q_Es_month_0 d a0 a1 m h Q := zvc_ok zc_Es_month zm_Es_month 14 (fun _ => rfl) H
theorem e_Es_month (d : Nat) (a0 a1 : Int) (m : zM) (h : zH) (Q : zQ) (H : q_Es_month_0 d a0 a1 m h Q) : zcal WP (d + 1) n_Es_month [.inr (.inr a0), .inl a1] m h Q := zcal_mk rfl H
def zm_Es_causes : Nat → Option (List Bool) := fun pc => none
abbrev q_Es_causes_0 (d : Nat) (a0 a1 : Int) (m : zM) (h : zH) (Q : zQ) : Prop := WP d n_Es_causes 0 [some (.inr (.inr a0)), some (.inl a1)] [] m h Q
set_option maxRecDepth 100000 in
set_option maxHeartbeats 8000000 in
theorem s_Es_causes_0 (d : Nat) (a0 a1 : Int) (m : zM) (h : zH) (Q : zQ) (H :
  kd h a0 = 12 ∧ kd h (m a0 2) = 2 ∧ zcal WP d n_Bd_isKnown [.inr (.inr (m a0 2)), .inl a1] m h (zk1 fun r1 m1 h1 =>
  (r1 ≠ 0 →
    kd h1 a0 = 12 ∧ kd h1 (m1 a0 2) = 2 ∧ zcal WP d n_Bd_settle [.inr (.inr (m1 a0 2)), .inl a1, .inl 119, .inl 119] m1 h1 (zk0 fun m2 h2 =>
    kd h2 a0 = 12 ∧ kd h2 a0 = 12 ∧ kd h2 (m2 a0 6) = 1 ∧ zcal WP d n_Bl_gather [.inr (.inr (m2 a0 6)), .inr (.inr (m2 a0 2)), .inl a1] m2 h2 (zk0 fun m3 h3 =>
    kd h3 a0 = 12 ∧ kd h3 (m3 a0 6) = 1 ∧ zcal WP d n_Bl_search [.inr (.inr (m3 a0 6)), .inl ((-1))] m3 h3 (zk1 fun r4 m4 h4 =>
    Q (some (.inl r4)) m4 h4)))) ∧
  (¬ (r1 ≠ 0) →
    Q (some (.inl ((-1)))) m1 h1))) : q_Es_causes_0 d a0 a1 m h Q := zvc_ok zc_Es_causes zm_Es_causes 25 (fun _ => rfl) H
theorem e_Es_causes (d : Nat) (a0 a1 : Int) (m : zM) (h : zH) (Q : zQ) (H : q_Es_causes_0 d a0 a1 m h Q) : zcal WP (d + 1) n_Es_causes [.inr (.inr a0), .inl a1] m h Q := zcal_mk rfl H
def zm_Es_cause : Nat → Option (List Bool) := fun pc => none
abbrev q_Es_cause_0 (d : Nat) (a0 a1 a2 : Int) (m : zM) (h : zH) (Q : zQ) : Prop := WP d n_Es_cause 0 [some (.inr (.inr a0)), some (.inl a1), some (.inl a2)] [] m h Q
set_option maxRecDepth 100000 in
set_option maxHeartbeats 8000000 in
theorem s_Es_cause_0 (d : Nat) (a0 a1 a2 : Int) (m : zM) (h : zH) (Q : zQ) (H :
  kd h a0 = 12 ∧ kd h (m a0 2) = 2 ∧ zcal WP d n_Bd_isKnown [.inr (.inr (m a0 2)), .inl a1] m h (zk1 fun r1 m1 h1 =>
  (r1 = 0 →
    Q (some (.inl ((-1)))) m1 h1) ∧
  (¬ (r1 = 0) →
    ((0 : Int) ≤ a2 →
      kd h1 a0 = 12 ∧ kd h1 (m1 a0 2) = 2 ∧ zcal WP d n_Bd_settle [.inr (.inr (m1 a0 2)), .inl a1, .inl 119, .inl 119] m1 h1 (zk0 fun m2 h2 =>
      kd h2 a0 = 12 ∧ kd h2 a0 = 12 ∧ kd h2 (m2 a0 6) = 1 ∧ zcal WP d n_Bl_gather [.inr (.inr (m2 a0 6)), .inr (.inr (m2 a0 2)), .inl a1] m2 h2 (zk0 fun m3 h3 =>
      kd h3 a0 = 12 ∧ kd h3 (m3 a0 6) = 1 ∧ zcal WP d n_Bl_search [.inr (.inr (m3 a0 6)), .inl a2] m3 h3 (zk1 fun r4 m4 h4 =>
      kd h4 a0 = 12 ∧ kd h4 (m4 a0 6) = 1 ∧ Q (some (.inl (m4 (m4 a0 6) 0))) m4 h4)))) ∧
    (¬ ((0 : Int) ≤ a2) →
      Q (some (.inl ((-1)))) m1 h1)))) : q_Es_cause_0 d a0 a1 a2 m h Q := zvc_ok zc_Es_cause zm_Es_cause 31 (fun _ => rfl) H
theorem e_Es_cause (d : Nat) (a0 a1 a2 : Int) (m : zM) (h : zH) (Q : zQ) (H : q_Es_cause_0 d a0 a1 a2 m h Q) : zcal WP (d + 1) n_Es_cause [.inr (.inr a0), .inl a1, .inl a2] m h Q := zcal_mk rfl H
def zm_Es_turned : Nat → Option (List Bool) := fun pc => none
abbrev q_Es_turned_0 (d : Nat) (a0 a1 a2 : Int) (m : zM) (h : zH) (Q : zQ) : Prop := WP d n_Es_turned 0 [some (.inr (.inr a0)), some (.inl a1), some (.inl a2), none] [] m h Q
set_option maxRecDepth 100000 in
set_option maxHeartbeats 8000000 in
theorem s_Es_turned_0 (d : Nat) (a0 a1 a2 : Int) (m : zM) (h : zH) (Q : zQ) (H :
  kd h a0 = 12 ∧ kd h (m a0 2) = 2 ∧ zcal WP d n_Bd_isKnown [.inr (.inr (m a0 2)), .inl a1] m h (zk1 fun r1 m1 h1 =>
  (r1 = 0 →
    Q (some (.inl ((-1)))) m1 h1) ∧
  (¬ (r1 = 0) →
    kd h1 a0 = 12 ∧ kd h1 (m1 a0 2) = 2 ∧ zcal WP d n_Bd_isKnown [.inr (.inr (m1 a0 2)), .inl a2] m1 h1 (zk1 fun r2 m2 h2 =>
    (r2 ≠ 0 →
      kd h2 a0 = 12 ∧ kd h2 (m2 a0 2) = 2 ∧ zcal WP d n_Bd_settle [.inr (.inr (m2 a0 2)), .inl a1, .inl 119, .inl 119] m2 h2 (zk0 fun m3 h3 =>
      kd h3 a0 = 12 ∧ kd h3 (m3 a0 2) = 2 ∧ zcal WP d n_Bd_noteReasons [.inr (.inr (m3 a0 2)), .inl (min a1 a2)] m3 h3 (zk0 fun m4 h4 =>
      kd h4 a0 = 12 ∧ kd h4 (m4 a0 2) = 2 ∧ zcal WP d n_Bd_settle [.inr (.inr (m4 a0 2)), .inl a2, .inl 119, .inl 119] m4 h4 (zk0 fun m5 h5 =>
      kd h5 a0 = 12 ∧ kd h5 (m5 a0 2) = 2 ∧ zcal WP d n_Bd_firstTurned [.inr (.inr (m5 a0 2)), .inl (min a1 a2)] m5 h5 (zk1 fun r6 m6 h6 =>
      Q (some (.inl r6)) m6 h6))))) ∧
    (¬ (r2 ≠ 0) →
      Q (some (.inl ((-1)))) m2 h2))))) : q_Es_turned_0 d a0 a1 a2 m h Q := zvc_ok zc_Es_turned zm_Es_turned 38 (fun _ => rfl) H
theorem e_Es_turned (d : Nat) (a0 a1 a2 : Int) (m : zM) (h : zH) (Q : zQ) (H : q_Es_turned_0 d a0 a1 a2 m h Q) : zcal WP (d + 1) n_Es_turned [.inr (.inr a0), .inl a1, .inl a2] m h Q := zcal_mk rfl H
def zm_Es_count : Nat → Option (List Bool) := fun pc => none
abbrev q_Es_count_0 (d : Nat) (a0 a1 : Int) (m : zM) (h : zH) (Q : zQ) : Prop := WP d n_Es_count 0 [some (.inr (.inr a0)), some (.inl a1)] [] m h Q
set_option maxRecDepth 100000 in
set_option maxHeartbeats 8000000 in
theorem s_Es_count_0 (d : Nat) (a0 a1 : Int) (m : zM) (h : zH) (Q : zQ) (H :
  (a1 = 0 →
    kd h a0 = 12 ∧ kd h (m a0 2) = 2 ∧ Q (some (.inl (m (m a0 2) 0))) m h) ∧
  (¬ a1 = 0 →
  (a1 = 1 →
    kd h a0 = 12 ∧ kd h (m a0 2) = 2 ∧ Q (some (.inl (m (m a0 2) 3))) m h) ∧
  (¬ a1 = 1 →
  (a1 = 2 →
    kd h a0 = 12 ∧ kd h (m a0 2) = 2 ∧ Q (some (.inl (m (m a0 2) 5))) m h) ∧
  (¬ a1 = 2 →
  (a1 = 3 →
    kd h a0 = 12 ∧ kd h (m a0 2) = 2 ∧ Q (some (.inl (m (m a0 2) 7))) m h) ∧
  (¬ a1 = 3 →
  (a1 = 4 →
    kd h a0 = 12 ∧ kd h (m a0 2) = 2 ∧ Q (some (.inl (m (m a0 2) 9))) m h) ∧
  (¬ a1 = 4 →
  (a1 = 5 →
    kd h a0 = 12 ∧ kd h (m a0 0) = 3 ∧ Q (some (.inl (m (m a0 0) 3))) m h) ∧
  (¬ a1 = 5 →
  (a1 = 6 →
    kd h a0 = 12 ∧ kd h (m a0 1) = 8 ∧ Q (some (.inl (m (m a0 1) 1))) m h) ∧
  (¬ a1 = 6 →
    Q (some (.inl ((-1)))) m h)))))))) : q_Es_count_0 d a0 a1 m h Q := zvc_ok zc_Es_count zm_Es_count 33 (fun _ => rfl) H
theorem e_Es_count (d : Nat) (a0 a1 : Int) (m : zM) (h : zH) (Q : zQ) (H : q_Es_count_0 d a0 a1 m h Q) : zcal WP (d + 1) n_Es_count [.inr (.inr a0), .inl a1] m h Q := zcal_mk rfl H
def zm_Es_addValued : Nat → Option (List Bool) := fun pc => none
abbrev q_Es_addValued_0 (d : Nat) (a0 a1 a2 a3 a4 a5 : Int) (m : zM) (h : zH) (Q : zQ) : Prop := WP d n_Es_addValued 0 [some (.inr (.inr a0)), some (.inl a1), some (.inl a2), some (.inl a3), some (.inl a4), some (.inl a5), none] [] m h Q
set_option maxRecDepth 100000 in
set_option maxHeartbeats 8000000 in
theorem s_Es_addValued_0 (d : Nat) (a0 a1 a2 a3 a4 a5 : Int) (m : zM) (h : zH) (Q : zQ) (H :
  kd h a0 = 12 ∧ kd h (m a0 2) = 2 ∧ zcal WP d n_Bd_takesFact [.inr (.inr (m a0 2)), .inl a2, .inl a3] m h (zk1 fun r1 m1 h1 =>
  (r1 = 0 →
    Q (some (.inl ((-1)))) m1 h1) ∧
  (¬ (r1 = 0) →
    zcal WP d n_Es_within [.inl a4, .inl 0, .inl a5] m1 h1 (zk1 fun r2 m2 h2 =>
    (r2 ≠ 0 →
      ∀ m3 h3, m3 = znm m2 h2 → h3 = znh h2 7 0 18 →
      kd h3 (nx h2) = 7 ∧ zcal WP d n_Fa_init [.inr (.inr (nx h2)), .inl a1, .inl a2, .inl a3] m3 h3 (zk0 fun m4 h4 =>
      kd h4 (nx h2) = 7 ∧ 0 < (nx h2) ∧ ∀ m5, m5 = zwr m4 (nx h2) 6 a4 →
      kd h4 a0 = 12 ∧ kd h4 (m5 a0 2) = 2 ∧ zcal WP d n_Bd_addFact [.inr (.inr (m5 a0 2)), .inr (.inr (nx h2))] m5 h4 (zk1 fun r6 m6 h6 =>
      Q (some (.inl r6)) m6 h6))) ∧
    (¬ (r2 ≠ 0) →
      Q (some (.inl ((-1)))) m2 h2))))) : q_Es_addValued_0 d a0 a1 a2 a3 a4 a5 m h Q := zvc_ok zc_Es_addValued zm_Es_addValued 29 (fun _ => rfl) H
theorem e_Es_addValued (d : Nat) (a0 a1 a2 a3 a4 a5 : Int) (m : zM) (h : zH) (Q : zQ) (H : q_Es_addValued_0 d a0 a1 a2 a3 a4 a5 m h Q) : zcal WP (d + 1) n_Es_addValued [.inr (.inr a0), .inl a1, .inl a2, .inl a3, .inl a4, .inl a5] m h Q := zcal_mk rfl H
def zm_Es_within : Nat → Option (List Bool) := fun pc => none
abbrev q_Es_within_0 (d : Nat) (a0 a1 a2 : Int) (m : zM) (h : zH) (Q : zQ) : Prop := WP d n_Es_within 0 [some (.inl a0), some (.inl a1), some (.inl a2)] [] m h Q
set_option maxRecDepth 100000 in
set_option maxHeartbeats 8000000 in
theorem s_Es_within_0 (d : Nat) (a0 a1 a2 : Int) (m : zM) (h : zH) (Q : zQ) (H :
  (a0 < a1 →
    ((0 : Int) = 0 ∨ (0 : Int) = 1) ∧ Q (some (.inl (0 : Int))) m h) ∧
  (¬ (a0 < a1) →
    (a2 < a0 →
      ((0 : Int) = 0 ∨ (0 : Int) = 1) ∧ Q (some (.inl (0 : Int))) m h) ∧
    (¬ (a2 < a0) →
      ((1 : Int) = 0 ∨ (1 : Int) = 1) ∧ Q (some (.inl (1 : Int))) m h))) : q_Es_within_0 d a0 a1 a2 m h Q := zvc_ok zc_Es_within zm_Es_within 11 (fun _ => rfl) H
theorem e_Es_within (d : Nat) (a0 a1 a2 : Int) (m : zM) (h : zH) (Q : zQ) (H : q_Es_within_0 d a0 a1 a2 m h Q) : zcal WP (d + 1) n_Es_within [.inl a0, .inl a1, .inl a2] m h Q := zcal_mk rfl H
def zm_Es_isDay : Nat → Option (List Bool) := fun pc => none
abbrev q_Es_isDay_0 (d : Nat) (a0 : Int) (m : zM) (h : zH) (Q : zQ) : Prop := WP d n_Es_isDay 0 [some (.inl a0)] [] m h Q
set_option maxRecDepth 100000 in
set_option maxHeartbeats 8000000 in
theorem s_Es_isDay_0 (d : Nat) (a0 : Int) (m : zM) (h : zH) (Q : zQ) (H :
  zcal WP d n_Es_within [.inl a0, .inl 0, .inl 119] m h (zk1 fun r1 m1 h1 =>
  (r1 = 0 ∨ r1 = 1) ∧ Q (some (.inl r1)) m1 h1)) : q_Es_isDay_0 d a0 m h Q := zvc_ok zc_Es_isDay zm_Es_isDay 6 (fun _ => rfl) H
theorem e_Es_isDay (d : Nat) (a0 : Int) (m : zM) (h : zH) (Q : zQ) (H : q_Es_isDay_0 d a0 m h Q) : zcal WP (d + 1) n_Es_isDay [.inl a0] m h Q := zcal_mk rfl H
def zm_Es_isClass : Nat → Option (List Bool) := fun pc => none
abbrev q_Es_isClass_0 (d : Nat) (a0 : Int) (m : zM) (h : zH) (Q : zQ) : Prop := WP d n_Es_isClass 0 [some (.inl a0)] [] m h Q
set_option maxRecDepth 100000 in
set_option maxHeartbeats 8000000 in
theorem s_Es_isClass_0 (d : Nat) (a0 : Int) (m : zM) (h : zH) (Q : zQ) (H :
  zcal WP d n_Es_within [.inl a0, .inl 0, .inl 5] m h (zk1 fun r1 m1 h1 =>
  (r1 = 0 ∨ r1 = 1) ∧ Q (some (.inl r1)) m1 h1)) : q_Es_isClass_0 d a0 m h Q := zvc_ok zc_Es_isClass zm_Es_isClass 6 (fun _ => rfl) H
theorem e_Es_isClass (d : Nat) (a0 : Int) (m : zM) (h : zH) (Q : zQ) (H : q_Es_isClass_0 d a0 m h Q) : zcal WP (d + 1) n_Es_isClass [.inl a0] m h Q := zcal_mk rfl H
def zm_Es_uniteSets : Nat → Option (List Bool) := fun pc => bif Nat.beq pc 6 then some [true, true, true, true, false, false] else (bif Nat.beq pc 19 then some [true, true, true, true, true, true] else (none))
abbrev q_Es_uniteSets_0 (d : Nat) (a0 a1 a2 : Int) (m : zM) (h : zH) (Q : zQ) : Prop := WP d n_Es_uniteSets 0 [some (.inr (.inr a0)), some (.inl a1), some (.inr (.inr a2)), none, none, none] [] m h Q
abbrev q_Es_uniteSets_6 (d : Nat) (a0 a1 a2 a3 : Int) (m : zM) (h : zH) (Q : zQ) : Prop := WP d n_Es_uniteSets 6 [some (.inr (.inr a0)), some (.inl a1), some (.inr (.inr a2)), some (.inl a3), none, none] [] m h Q
abbrev q_Es_uniteSets_19 (d : Nat) (a0 a1 a2 a3 a4 a5 : Int) (m : zM) (h : zH) (Q : zQ) : Prop := WP d n_Es_uniteSets 19 [some (.inr (.inr a0)), some (.inl a1), some (.inr (.inr a2)), some (.inl a3), some (.inl a4), some (.inl a5)] [] m h Q
set_option maxRecDepth 100000 in
set_option maxHeartbeats 8000000 in
theorem s_Es_uniteSets_0 (d : Nat) (a0 a1 a2 : Int) (m : zM) (h : zH) (Q : zQ) (H :
  kd h a2 = 101 ∧ 0 < a2 ∧ (0 : Int) ≤ 0 ∧ 0 < ln h a2 ∧ ∀ m1, m1 = zwr m a2 0 0 →
  q_Es_uniteSets_6 d a0 a1 a2 0 m1 h Q) : q_Es_uniteSets_0 d a0 a1 a2 m h Q := zvc_ok zc_Es_uniteSets zm_Es_uniteSets 36 (fun _ => rfl) H
set_option maxRecDepth 100000 in
set_option maxHeartbeats 8000000 in
theorem s_Es_uniteSets_6 (d : Nat) (a0 a1 a2 a3 : Int) (m : zM) (h : zH) (Q : zQ) (H :
  (a1 ≤ a3 →
    Q none m h) ∧
  (¬ (a1 ≤ a3) →
    q_Es_uniteSets_19 d a0 a1 a2 a3 (zshl 1 a3) 0 m h Q)) : q_Es_uniteSets_6 d a0 a1 a2 a3 m h Q := zvc_ok zc_Es_uniteSets zm_Es_uniteSets 36 (fun _ => rfl) H
set_option maxRecDepth 100000 in
set_option maxHeartbeats 8000000 in
theorem s_Es_uniteSets_19 (d : Nat) (a0 a1 a2 a3 a4 a5 : Int) (m : zM) (h : zH) (Q : zQ) (H :
  (a4 ≤ a5 →
    q_Es_uniteSets_6 d a0 a1 a2 (w32 (a3 + 1)) m h Q) ∧
  (¬ (a4 ≤ a5) →
    kd h a2 = 101 ∧ (0 : Int) ≤ a5 ∧ a5 < ln h a2 ∧ kd h a0 = 101 ∧ (0 : Int) ≤ a3 ∧ a3 < ln h a0 ∧ kd h a2 = 101 ∧ 0 < a2 ∧ (0 : Int) ≤ (zor a4 a5) ∧ (zor a4 a5) < ln h a2 ∧ ∀ m1, m1 = zwr m a2 (zor a4 a5) (zor (m a2 a5) (m a0 a3)) →
    q_Es_uniteSets_19 d a0 a1 a2 a3 a4 (w32 (a5 + 1)) m1 h Q)) : q_Es_uniteSets_19 d a0 a1 a2 a3 a4 a5 m h Q := zvc_ok zc_Es_uniteSets zm_Es_uniteSets 36 (fun _ => rfl) H
theorem e_Es_uniteSets (d : Nat) (a0 a1 a2 : Int) (m : zM) (h : zH) (Q : zQ) (H : q_Es_uniteSets_0 d a0 a1 a2 m h Q) : zcal WP (d + 1) n_Es_uniteSets [.inr (.inr a0), .inl a1, .inr (.inr a2)] m h Q := zcal_mk rfl H
def zm_Es_isAhead : Nat → Option (List Bool) := fun pc => none
abbrev q_Es_isAhead_0 (d : Nat) (a0 a1 : Int) (m : zM) (h : zH) (Q : zQ) : Prop := WP d n_Es_isAhead 0 [some (.inl a0), some (.inl a1), none] [] m h Q
set_option maxRecDepth 100000 in
set_option maxHeartbeats 8000000 in
theorem s_Es_isAhead_0 (d : Nat) (a0 a1 : Int) (m : zM) (h : zH) (Q : zQ) (H :
  ((zand (zand a0 (zxor a0 a1)) (w32 (-(zxor a0 a1)))) = 0 →
    ((0 : Int) = 0 ∨ (0 : Int) = 1) ∧ Q (some (.inl (0 : Int))) m h) ∧
  (¬ ((zand (zand a0 (zxor a0 a1)) (w32 (-(zxor a0 a1)))) = 0) →
    ((1 : Int) = 0 ∨ (1 : Int) = 1) ∧ Q (some (.inl (1 : Int))) m h)) : q_Es_isAhead_0 d a0 a1 m h Q := zvc_ok zc_Es_isAhead zm_Es_isAhead 16 (fun _ => rfl) H
theorem e_Es_isAhead (d : Nat) (a0 a1 : Int) (m : zM) (h : zH) (Q : zQ) (H : q_Es_isAhead_0 d a0 a1 m h Q) : zcal WP (d + 1) n_Es_isAhead [.inl a0, .inl a1] m h Q := zcal_mk rfl H
def zm_Bl_init : Nat → Option (List Bool) := fun pc => none
abbrev q_Bl_init_0 (d : Nat) (a0 : Int) (m : zM) (h : zH) (Q : zQ) : Prop := WP d n_Bl_init 0 [some (.inr (.inr a0))] [] m h Q
set_option maxRecDepth 100000 in
set_option maxHeartbeats 8000000 in
theorem s_Bl_init_0 (d : Nat) (a0 : Int) (m : zM) (h : zH) (Q : zQ) (H :
  0 < a0 ∧ (0 : Int) ≤ 180 ∧ 180 ≤ (100000 : Int) ∧ ∀ m1 h1, m1 = znm m h → h1 = znh h 101 180 180 →
  kd h1 a0 = 1 ∧ 0 < a0 ∧ ∀ m2, m2 = zwr m1 a0 1 (nx h) →
  Q none m2 h1) : q_Bl_init_0 d a0 m h Q := zvc_ok zc_Bl_init zm_Bl_init 8 (fun _ => rfl) H
theorem e_Bl_init (d : Nat) (a0 : Int) (m : zM) (h : zH) (Q : zQ) (H : q_Bl_init_0 d a0 m h Q) : zcal WP (d + 1) n_Bl_init [.inr (.inr a0)] m h Q := zcal_mk rfl H
def zm_Bl_gather : Nat → Option (List Bool) := fun pc => bif Nat.beq pc 12 then some [true, true, true, true, false, false] else (bif Nat.beq pc 66 then some [true, true, true, true, true, false] else (none))
abbrev q_Bl_gather_0 (d : Nat) (a0 a1 a2 : Int) (m : zM) (h : zH) (Q : zQ) : Prop := WP d n_Bl_gather 0 [some (.inr (.inr a0)), some (.inr (.inr a1)), some (.inl a2), none, none, none] [] m h Q
abbrev q_Bl_gather_12 (d : Nat) (a0 a1 a2 a3 : Int) (m : zM) (h : zH) (Q : zQ) : Prop := WP d n_Bl_gather 12 [some (.inr (.inr a0)), some (.inr (.inr a1)), some (.inl a2), some (.inl a3), none, none] [] m h Q
abbrev q_Bl_gather_66 (d : Nat) (a0 a1 a2 a3 a4 s0 : Int) (m : zM) (h : zH) (Q : zQ) : Prop := WP d n_Bl_gather 66 [some (.inr (.inr a0)), some (.inr (.inr a1)), some (.inl a2), some (.inl a3), some (.inr (.inr a4)), none] [.inl s0] m h Q
set_option maxRecDepth 100000 in
set_option maxHeartbeats 8000000 in
theorem s_Bl_gather_0 (d : Nat) (a0 a1 a2 : Int) (m : zM) (h : zH) (Q : zQ) (H :
  kd h a0 = 1 ∧ 0 < a0 ∧ ∀ m1, m1 = zwr m a0 2 0 →
  kd h a0 = 1 ∧ 0 < a0 ∧ ∀ m2, m2 = zwr m1 a0 3 0 →
  q_Bl_gather_12 d a0 a1 a2 0 m2 h Q) : q_Bl_gather_0 d a0 a1 a2 m h Q := zvc_ok zc_Bl_gather zm_Bl_gather 59 (fun _ => rfl) H
set_option maxRecDepth 100000 in
set_option maxHeartbeats 8000000 in
theorem s_Bl_gather_12 (d : Nat) (a0 a1 a2 a3 : Int) (m : zM) (h : zH) (Q : zQ) (H :
  (a2 ≤ a3 →
    Q none m h) ∧
  (¬ (a2 ≤ a3) →
    kd h a1 = 2 ∧ kd h (m a1 8) = 117 ∧ (0 : Int) ≤ a3 ∧ a3 < ln h (m a1 8) ∧ kd h (m (m a1 8) a3) = 7 ∧ ((m (m (m a1 8) a3) 0) ≠ 7 →
      q_Bl_gather_12 d a0 a1 a2 (w32 (a3 + 1)) m h Q) ∧
    (¬ ((m (m (m a1 8) a3) 0) ≠ 7) →
      kd h (m (m a1 8) a3) = 7 ∧ ((m (m (m a1 8) a3) 17) = 0 →
        q_Bl_gather_12 d a0 a1 a2 (w32 (a3 + 1)) m h Q) ∧
      (¬ ((m (m (m a1 8) a3) 17) = 0) →
        kd h (m (m a1 8) a3) = 7 ∧ ((m (m (m a1 8) a3) 4) ≠ ((-1)) →
          kd h (m (m a1 8) a3) = 7 ∧ q_Bl_gather_66 d a0 a1 a2 a3 (m (m a1 8) a3) (zshl 1 (w32 (16 + (m (m (m a1 8) a3) 4)))) m h Q) ∧
        (¬ ((m (m (m a1 8) a3) 4) ≠ ((-1))) →
          q_Bl_gather_66 d a0 a1 a2 a3 (m (m a1 8) a3) 0 m h Q))))) : q_Bl_gather_12 d a0 a1 a2 a3 m h Q := zvc_ok zc_Bl_gather zm_Bl_gather 59 (fun _ => rfl) H
set_option maxRecDepth 100000 in
set_option maxHeartbeats 8000000 in
theorem s_Bl_gather_66 (d : Nat) (a0 a1 a2 a3 a4 s0 : Int) (m : zM) (h : zH) (Q : zQ) (H :
  kd h a1 = 2 ∧ kd h a4 = 7 ∧ kd h (m a1 2) = 116 ∧ (0 : Int) ≤ (m a4 1) ∧ (m a4 1) < ln h (m a1 2) ∧ kd h (m (m a1 2) (m a4 1)) = 6 ∧ kd h a4 = 7 ∧ kd h a0 = 1 ∧ zcal WP d n_Bl_note [.inr (.inr a0), .inl (zor (zor (zshl 1 (m (m (m a1 2) (m a4 1)) 0)) (zshl 1 (w32 (8 + (m a4 5))))) s0)] m h (zk0 fun m1 h1 =>
  q_Bl_gather_12 d a0 a1 a2 (w32 (a3 + 1)) m1 h1 Q)) : q_Bl_gather_66 d a0 a1 a2 a3 a4 s0 m h Q := zvc_ok zc_Bl_gather zm_Bl_gather 59 (fun _ => rfl) H
theorem e_Bl_gather (d : Nat) (a0 a1 a2 : Int) (m : zM) (h : zH) (Q : zQ) (H : q_Bl_gather_0 d a0 a1 a2 m h Q) : zcal WP (d + 1) n_Bl_gather [.inr (.inr a0), .inr (.inr a1), .inl a2] m h Q := zcal_mk rfl H
def zm_Bl_note : Nat → Option (List Bool) := fun pc => bif Nat.beq pc 2 then some [true, true, true] else (none)
abbrev q_Bl_note_0 (d : Nat) (a0 a1 : Int) (m : zM) (h : zH) (Q : zQ) : Prop := WP d n_Bl_note 0 [some (.inr (.inr a0)), some (.inl a1), none] [] m h Q
abbrev q_Bl_note_2 (d : Nat) (a0 a1 a2 : Int) (m : zM) (h : zH) (Q : zQ) : Prop := WP d n_Bl_note 2 [some (.inr (.inr a0)), some (.inl a1), some (.inl a2)] [] m h Q
set_option maxRecDepth 100000 in
set_option maxHeartbeats 8000000 in
theorem s_Bl_note_0 (d : Nat) (a0 a1 : Int) (m : zM) (h : zH) (Q : zQ) (H :
  q_Bl_note_2 d a0 a1 0 m h Q) : q_Bl_note_0 d a0 a1 m h Q := zvc_ok zc_Bl_note zm_Bl_note 35 (fun _ => rfl) H
set_option maxRecDepth 100000 in
set_option maxHeartbeats 8000000 in
theorem s_Bl_note_2 (d : Nat) (a0 a1 a2 : Int) (m : zM) (h : zH) (Q : zQ) (H :
  kd h a0 = 1 ∧ ((m a0 2) ≤ a2 →
    kd h a0 = 1 ∧ kd h a0 = 1 ∧ kd h (m a0 1) = 101 ∧ 0 < (m a0 1) ∧ (0 : Int) ≤ (m a0 2) ∧ (m a0 2) < ln h (m a0 1) ∧ ∀ m1, m1 = zwr m (m a0 1) (m a0 2) a1 →
    kd h a0 = 1 ∧ kd h a0 = 1 ∧ 0 < a0 ∧ ∀ m2, m2 = zwr m1 a0 2 (w32 ((m1 a0 2) + 1)) →
    kd h a0 = 1 ∧ kd h a0 = 1 ∧ 0 < a0 ∧ ∀ m3, m3 = zwr m2 a0 3 (zor (m2 a0 3) a1) →
    Q none m3 h) ∧
  (¬ ((m a0 2) ≤ a2) →
    kd h a0 = 1 ∧ kd h (m a0 1) = 101 ∧ (0 : Int) ≤ a2 ∧ a2 < ln h (m a0 1) ∧ ((m (m a0 1) a2) ≠ a1 →
      q_Bl_note_2 d a0 a1 (w32 (a2 + 1)) m h Q) ∧
    (¬ ((m (m a0 1) a2) ≠ a1) →
      Q none m h))) : q_Bl_note_2 d a0 a1 a2 m h Q := zvc_ok zc_Bl_note zm_Bl_note 35 (fun _ => rfl) H
theorem e_Bl_note (d : Nat) (a0 a1 : Int) (m : zM) (h : zH) (Q : zQ) (H : q_Bl_note_0 d a0 a1 m h Q) : zcal WP (d + 1) n_Bl_note [.inr (.inr a0), .inl a1] m h Q := zcal_mk rfl H
def zm_Bl_search : Nat → Option (List Bool) := fun pc => bif Nat.beq pc 26 then some [true, false, true] else (none)
abbrev q_Bl_search_0 (d : Nat) (a0 a1 : Int) (m : zM) (h : zH) (Q : zQ) : Prop := WP d n_Bl_search 0 [some (.inr (.inr a0)), some (.inl a1), none] [] m h Q
abbrev q_Bl_search_26 (d : Nat) (a0 a2 : Int) (m : zM) (h : zH) (Q : zQ) : Prop := WP d n_Bl_search 26 [some (.inr (.inr a0)), none, some (.inl a2)] [] m h Q
set_option maxRecDepth 100000 in
set_option maxHeartbeats 8000000 in
theorem s_Bl_search_0 (d : Nat) (a0 a1 : Int) (m : zM) (h : zH) (Q : zQ) (H :
  kd h a0 = 1 ∧ 0 < a0 ∧ ∀ m1, m1 = zwr m a0 4 a1 →
  kd h a0 = 1 ∧ 0 < a0 ∧ ∀ m2, m2 = zwr m1 a0 0 ((-1)) →
  kd h a0 = 1 ∧ 0 < a0 ∧ ∀ m3, m3 = zwr m2 a0 5 0 →
  kd h a0 = 1 ∧ ((m3 a0 2) ≠ 0 →
    q_Bl_search_26 d a0 1 m3 h Q) ∧
  (¬ ((m3 a0 2) ≠ 0) →
    Q (some (.inl (0 : Int))) m3 h)) : q_Bl_search_0 d a0 a1 m h Q := zvc_ok zc_Bl_search zm_Bl_search 38 (fun _ => rfl) H
set_option maxRecDepth 100000 in
set_option maxHeartbeats 8000000 in
theorem s_Bl_search_26 (d : Nat) (a0 a2 : Int) (m : zM) (h : zH) (Q : zQ) (H :
  ((3 : Int) < a2 →
    kd h a0 = 1 ∧ ((m a0 5) ≠ 0 →
      kd h a0 = 1 ∧ Q (some (.inl (m a0 5))) m h) ∧
    (¬ ((m a0 5) ≠ 0) →
      Q (some (.inl ((-2)))) m h)) ∧
  (¬ ((3 : Int) < a2) →
    kd h a0 = 1 ∧ ((m a0 5) ≠ 0 →
      kd h a0 = 1 ∧ ((m a0 5) ≠ 0 →
        kd h a0 = 1 ∧ Q (some (.inl (m a0 5))) m h) ∧
      (¬ ((m a0 5) ≠ 0) →
        Q (some (.inl ((-2)))) m h)) ∧
    (¬ ((m a0 5) ≠ 0) →
      kd h a0 = 1 ∧ zcal WP d n_Bl_pick [.inr (.inr a0), .inl 0, .inl a2, .inl 0] m h (zk0 fun m1 h1 =>
      q_Bl_search_26 d a0 (w32 (a2 + 1)) m1 h1 Q)))) : q_Bl_search_26 d a0 a2 m h Q := zvc_ok zc_Bl_search zm_Bl_search 38 (fun _ => rfl) H
theorem e_Bl_search (d : Nat) (a0 a1 : Int) (m : zM) (h : zH) (Q : zQ) (H : q_Bl_search_0 d a0 a1 m h Q) : zcal WP (d + 1) n_Bl_search [.inr (.inr a0), .inl a1] m h Q := zcal_mk rfl H
def zm_Bl_pick : Nat → Option (List Bool) := fun pc => bif Nat.beq pc 49 then some [true, false, true, true, true] else (none)
abbrev q_Bl_pick_0 (d : Nat) (a0 a1 a2 a3 : Int) (m : zM) (h : zH) (Q : zQ) : Prop := WP d n_Bl_pick 0 [some (.inr (.inr a0)), some (.inl a1), some (.inl a2), some (.inl a3), none] [] m h Q
abbrev q_Bl_pick_49 (d : Nat) (a0 a2 a3 a4 : Int) (m : zM) (h : zH) (Q : zQ) : Prop := WP d n_Bl_pick 49 [some (.inr (.inr a0)), none, some (.inl a2), some (.inl a3), some (.inl a4)] [] m h Q
set_option maxRecDepth 100000 in
set_option maxHeartbeats 8000000 in
theorem s_Bl_pick_0 (d : Nat) (a0 a1 a2 a3 : Int) (m : zM) (h : zH) (Q : zQ) (H :
  ((0 : Int) < a2 →
    q_Bl_pick_49 d a0 a2 a3 a1 m h Q) ∧
  (¬ ((0 : Int) < a2) →
    kd h a0 = 1 ∧ zcal WP d n_Bl_hitsAll [.inr (.inr a0), .inl a3] m h (zk1 fun r1 m1 h1 =>
    (r1 = 0 →
      Q none m1 h1) ∧
    (¬ (r1 = 0) →
      kd h1 a0 = 1 ∧ kd h1 a0 = 1 ∧ ((m1 a0 5) ≠ (m1 a0 4) →
        kd h1 a0 = 1 ∧ kd h1 a0 = 1 ∧ 0 < a0 ∧ ∀ m2, m2 = zwr m1 a0 0 (m1 a0 0) →
        kd h1 a0 = 1 ∧ kd h1 a0 = 1 ∧ 0 < a0 ∧ ∀ m3, m3 = zwr m2 a0 5 (w32 ((m2 a0 5) + 1)) →
        Q none m3 h1) ∧
      (¬ ((m1 a0 5) ≠ (m1 a0 4)) →
        kd h1 a0 = 1 ∧ 0 < a0 ∧ ∀ m2, m2 = zwr m1 a0 0 a3 →
        kd h1 a0 = 1 ∧ kd h1 a0 = 1 ∧ 0 < a0 ∧ ∀ m3, m3 = zwr m2 a0 5 (w32 ((m2 a0 5) + 1)) →
        Q none m3 h1))))) : q_Bl_pick_0 d a0 a1 a2 a3 m h Q := zvc_ok zc_Bl_pick zm_Bl_pick 53 (fun _ => rfl) H
set_option maxRecDepth 100000 in
set_option maxHeartbeats 8000000 in
theorem s_Bl_pick_49 (d : Nat) (a0 a2 a3 a4 : Int) (m : zM) (h : zH) (Q : zQ) (H :
  ((24 : Int) ≤ a4 →
    Q none m h) ∧
  (¬ ((24 : Int) ≤ a4) →
    kd h a0 = 1 ∧ ((zand (zshr (m a0 3) a4) 1) = 0 →
      q_Bl_pick_49 d a0 a2 a3 (w32 (a4 + 1)) m h Q) ∧
    (¬ ((zand (zshr (m a0 3) a4) 1) = 0) →
      kd h a0 = 1 ∧ zcal WP d n_Bl_pick [.inr (.inr a0), .inl (w32 (a4 + 1)), .inl (w32 (a2 - 1)), .inl (zor a3 (zshl 1 a4))] m h (zk0 fun m1 h1 =>
      q_Bl_pick_49 d a0 a2 a3 (w32 (a4 + 1)) m1 h1 Q)))) : q_Bl_pick_49 d a0 a2 a3 a4 m h Q := zvc_ok zc_Bl_pick zm_Bl_pick 53 (fun _ => rfl) H
theorem e_Bl_pick (d : Nat) (a0 a1 a2 a3 : Int) (m : zM) (h : zH) (Q : zQ) (H : q_Bl_pick_0 d a0 a1 a2 a3 m h Q) : zcal WP (d + 1) n_Bl_pick [.inr (.inr a0), .inl a1, .inl a2, .inl a3] m h Q := zcal_mk rfl H
def zm_Bl_hitsAll : Nat → Option (List Bool) := fun pc => bif Nat.beq pc 2 then some [true, true, true] else (none)
abbrev q_Bl_hitsAll_0 (d : Nat) (a0 a1 : Int) (m : zM) (h : zH) (Q : zQ) : Prop := WP d n_Bl_hitsAll 0 [some (.inr (.inr a0)), some (.inl a1), none] [] m h Q
abbrev q_Bl_hitsAll_2 (d : Nat) (a0 a1 a2 : Int) (m : zM) (h : zH) (Q : zQ) : Prop := WP d n_Bl_hitsAll 2 [some (.inr (.inr a0)), some (.inl a1), some (.inl a2)] [] m h Q
set_option maxRecDepth 100000 in
set_option maxHeartbeats 8000000 in
theorem s_Bl_hitsAll_0 (d : Nat) (a0 a1 : Int) (m : zM) (h : zH) (Q : zQ) (H :
  q_Bl_hitsAll_2 d a0 a1 0 m h Q) : q_Bl_hitsAll_0 d a0 a1 m h Q := zvc_ok zc_Bl_hitsAll zm_Bl_hitsAll 20 (fun _ => rfl) H
set_option maxRecDepth 100000 in
set_option maxHeartbeats 8000000 in
theorem s_Bl_hitsAll_2 (d : Nat) (a0 a1 a2 : Int) (m : zM) (h : zH) (Q : zQ) (H :
  kd h a0 = 1 ∧ ((m a0 2) ≤ a2 →
    ((1 : Int) = 0 ∨ (1 : Int) = 1) ∧ Q (some (.inl (1 : Int))) m h) ∧
  (¬ ((m a0 2) ≤ a2) →
    kd h a0 = 1 ∧ kd h (m a0 1) = 101 ∧ (0 : Int) ≤ a2 ∧ a2 < ln h (m a0 1) ∧ ((zand (m (m a0 1) a2) a1) ≠ 0 →
      q_Bl_hitsAll_2 d a0 a1 (w32 (a2 + 1)) m h Q) ∧
    (¬ ((zand (m (m a0 1) a2) a1) ≠ 0) →
      ((0 : Int) = 0 ∨ (0 : Int) = 1) ∧ Q (some (.inl (0 : Int))) m h))) : q_Bl_hitsAll_2 d a0 a1 a2 m h Q := zvc_ok zc_Bl_hitsAll zm_Bl_hitsAll 20 (fun _ => rfl) H
theorem e_Bl_hitsAll (d : Nat) (a0 a1 : Int) (m : zM) (h : zH) (Q : zQ) (H : q_Bl_hitsAll_0 d a0 a1 m h Q) : zcal WP (d + 1) n_Bl_hitsAll [.inr (.inr a0), .inl a1] m h Q := zcal_mk rfl H
def zm_Bd_init : Nat → Option (List Bool) := fun pc => bif Nat.beq pc 86 then some [true, false, true, false] else (bif Nat.beq pc 93 then some [true, false, true, true] else (none))
abbrev q_Bd_init_0 (d : Nat) (a0 a1 : Int) (m : zM) (h : zH) (Q : zQ) : Prop := WP d n_Bd_init 0 [some (.inr (.inr a0)), some (.inr (.inr a1)), none, none] [] m h Q
abbrev q_Bd_init_86 (d : Nat) (a0 a2 : Int) (m : zM) (h : zH) (Q : zQ) : Prop := WP d n_Bd_init 86 [some (.inr (.inr a0)), none, some (.inl a2), none] [] m h Q
abbrev q_Bd_init_93 (d : Nat) (a0 a2 a3 : Int) (m : zM) (h : zH) (Q : zQ) : Prop := WP d n_Bd_init 93 [some (.inr (.inr a0)), none, some (.inl a2), some (.inl a3)] [] m h Q
set_option maxRecDepth 100000 in
set_option maxHeartbeats 8000000 in
theorem s_Bd_init_0 (d : Nat) (a0 a1 : Int) (m : zM) (h : zH) (Q : zQ) (H :
  0 < a0 ∧ (0 : Int) ≤ 25 ∧ 25 ≤ (100000 : Int) ∧ ∀ m1 h1, m1 = znm m h → h1 = znh h 101 25 25 →
  kd h1 a0 = 2 ∧ 0 < a0 ∧ ∀ m2, m2 = zwr m1 a0 1 (nx h) →
  (0 : Int) ≤ 9 ∧ 9 ≤ (100000 : Int) ∧ ∀ m3 h3, m3 = znm m2 h1 → h3 = znh h1 116 9 9 →
  kd h3 a0 = 2 ∧ 0 < a0 ∧ ∀ m4, m4 = zwr m3 a0 2 (nx h1) →
  (0 : Int) ≤ 8 ∧ 8 ≤ (100000 : Int) ∧ ∀ m5 h5, m5 = znm m4 h3 → h5 = znh h3 101 8 8 →
  kd h5 a0 = 2 ∧ 0 < a0 ∧ ∀ m6, m6 = zwr m5 a0 4 (nx h3) →
  (0 : Int) ≤ 12 ∧ 12 ≤ (100000 : Int) ∧ ∀ m7 h7, m7 = znm m6 h5 → h7 = znh h5 121 12 12 →
  kd h7 a0 = 2 ∧ 0 < a0 ∧ ∀ m8, m8 = zwr m7 a0 6 (nx h5) →
  (0 : Int) ≤ 180 ∧ 180 ≤ (100000 : Int) ∧ ∀ m9 h9, m9 = znm m8 h7 → h9 = znh h7 117 180 180 →
  kd h9 a0 = 2 ∧ 0 < a0 ∧ ∀ m10, m10 = zwr m9 a0 8 (nx h7) →
  (0 : Int) ≤ 180 ∧ 180 ≤ (100000 : Int) ∧ ∀ m11 h11, m11 = znm m10 h9 → h11 = znh h9 101 180 180 →
  kd h11 a0 = 2 ∧ 0 < a0 ∧ ∀ m12, m12 = zwr m11 a0 11 (nx h9) →
  (0 : Int) ≤ 180 ∧ 180 ≤ (100000 : Int) ∧ ∀ m13 h13, m13 = znm m12 h11 → h13 = znh h11 101 180 180 →
  kd h13 a0 = 2 ∧ 0 < a0 ∧ ∀ m14, m14 = zwr m13 a0 13 (nx h11) →
  (0 : Int) ≤ 8 ∧ 8 ≤ (100000 : Int) ∧ ∀ m15 h15, m15 = znm m14 h13 → h15 = znh h13 101 8 8 →
  kd h15 a0 = 2 ∧ 0 < a0 ∧ ∀ m16, m16 = zwr m15 a0 14 (nx h13) →
  kd h15 a0 = 2 ∧ 0 < a0 ∧ ∀ m17, m17 = zwr m16 a0 17 ((-1)) →
  kd h15 a0 = 2 ∧ 0 < a0 ∧ ∀ m18, m18 = zwr m17 a0 10 a1 →
  q_Bd_init_86 d a0 0 m18 h15 Q) : q_Bd_init_0 d a0 a1 m h Q := zvc_ok zc_Bd_init zm_Bd_init 70 (fun _ => rfl) H
set_option maxRecDepth 100000 in
set_option maxHeartbeats 8000000 in
theorem s_Bd_init_86 (d : Nat) (a0 a2 : Int) (m : zM) (h : zH) (Q : zQ) (H :
  ((5 : Int) ≤ a2 →
    Q none m h) ∧
  (¬ ((5 : Int) ≤ a2) →
    q_Bd_init_93 d a0 a2 0 m h Q)) : q_Bd_init_86 d a0 a2 m h Q := zvc_ok zc_Bd_init zm_Bd_init 70 (fun _ => rfl) H
set_option maxRecDepth 100000 in
set_option maxHeartbeats 8000000 in
theorem s_Bd_init_93 (d : Nat) (a0 a2 a3 : Int) (m : zM) (h : zH) (Q : zQ) (H :
  ((5 : Int) ≤ a3 →
    q_Bd_init_86 d a0 (w32 (a2 + 1)) m h Q) ∧
  (¬ ((5 : Int) ≤ a3) →
    kd h a0 = 2 ∧ (a2 ≠ a3 →
      kd h (m a0 1) = 101 ∧ 0 < (m a0 1) ∧ (0 : Int) ≤ (w32 ((w32 (a2 * 5)) + a3)) ∧ (w32 ((w32 (a2 * 5)) + a3)) < ln h (m a0 1) ∧ ∀ m1, m1 = zwr m (m a0 1) (w32 ((w32 (a2 * 5)) + a3)) 1 →
      q_Bd_init_93 d a0 a2 (w32 (a3 + 1)) m1 h Q) ∧
    (¬ (a2 ≠ a3) →
      kd h (m a0 1) = 101 ∧ 0 < (m a0 1) ∧ (0 : Int) ≤ (w32 ((w32 (a2 * 5)) + a3)) ∧ (w32 ((w32 (a2 * 5)) + a3)) < ln h (m a0 1) ∧ ∀ m1, m1 = zwr m (m a0 1) (w32 ((w32 (a2 * 5)) + a3)) 0 →
      q_Bd_init_93 d a0 a2 (w32 (a3 + 1)) m1 h Q))) : q_Bd_init_93 d a0 a2 a3 m h Q := zvc_ok zc_Bd_init zm_Bd_init 70 (fun _ => rfl) H
theorem e_Bd_init (d : Nat) (a0 a1 : Int) (m : zM) (h : zH) (Q : zQ) (H : q_Bd_init_0 d a0 a1 m h Q) : zcal WP (d + 1) n_Bd_init [.inr (.inr a0), .inr (.inr a1)] m h Q := zcal_mk rfl H
def zm_Bd_isShed : Nat → Option (List Bool) := fun pc => none
abbrev q_Bd_isShed_0 (d : Nat) (a0 a1 : Int) (m : zM) (h : zH) (Q : zQ) : Prop := WP d n_Bd_isShed 0 [some (.inr (.inr a0)), some (.inl a1)] [] m h Q
set_option maxRecDepth 100000 in
set_option maxHeartbeats 8000000 in
theorem s_Bd_isShed_0 (d : Nat) (a0 a1 : Int) (m : zM) (h : zH) (Q : zQ) (H :
  kd h a0 = 2 ∧ zcal WP d n_Es_within [.inl a1, .inl 0, .inl (w32 ((m a0 0) - 1))] m h (zk1 fun r1 m1 h1 =>
  (r1 = 0 ∨ r1 = 1) ∧ Q (some (.inl r1)) m1 h1)) : q_Bd_isShed_0 d a0 a1 m h Q := zvc_ok zc_Bd_isShed zm_Bd_isShed 9 (fun _ => rfl) H
theorem e_Bd_isShed (d : Nat) (a0 a1 : Int) (m : zM) (h : zH) (Q : zQ) (H : q_Bd_isShed_0 d a0 a1 m h Q) : zcal WP (d + 1) n_Bd_isShed [.inr (.inr a0), .inl a1] m h Q := zcal_mk rfl H
def zm_Bd_isEngine : Nat → Option (List Bool) := fun pc => none
abbrev q_Bd_isEngine_0 (d : Nat) (a0 a1 : Int) (m : zM) (h : zH) (Q : zQ) : Prop := WP d n_Bd_isEngine 0 [some (.inr (.inr a0)), some (.inl a1)] [] m h Q
set_option maxRecDepth 100000 in
set_option maxHeartbeats 8000000 in
theorem s_Bd_isEngine_0 (d : Nat) (a0 a1 : Int) (m : zM) (h : zH) (Q : zQ) (H :
  kd h a0 = 2 ∧ zcal WP d n_Es_within [.inl a1, .inl 0, .inl (w32 ((m a0 3) - 1))] m h (zk1 fun r1 m1 h1 =>
  (r1 = 0 ∨ r1 = 1) ∧ Q (some (.inl r1)) m1 h1)) : q_Bd_isEngine_0 d a0 a1 m h Q := zvc_ok zc_Bd_isEngine zm_Bd_isEngine 9 (fun _ => rfl) H
theorem e_Bd_isEngine (d : Nat) (a0 a1 : Int) (m : zM) (h : zH) (Q : zQ) (H : q_Bd_isEngine_0 d a0 a1 m h Q) : zcal WP (d + 1) n_Bd_isEngine [.inr (.inr a0), .inl a1] m h Q := zcal_mk rfl H
def zm_Bd_areEngines : Nat → Option (List Bool) := fun pc => none
abbrev q_Bd_areEngines_0 (d : Nat) (a0 a1 : Int) (m : zM) (h : zH) (Q : zQ) : Prop := WP d n_Bd_areEngines 0 [some (.inr (.inr a0)), some (.inl a1)] [] m h Q
set_option maxRecDepth 100000 in
set_option maxHeartbeats 8000000 in
theorem s_Bd_areEngines_0 (d : Nat) (a0 a1 : Int) (m : zM) (h : zH) (Q : zQ) (H :
  kd h a0 = 2 ∧ zcal WP d n_Es_within [.inl a1, .inl 0, .inl (w32 ((zshl 1 (m a0 3)) - 1))] m h (zk1 fun r1 m1 h1 =>
  (r1 = 0 ∨ r1 = 1) ∧ Q (some (.inl r1)) m1 h1)) : q_Bd_areEngines_0 d a0 a1 m h Q := zvc_ok zc_Bd_areEngines zm_Bd_areEngines 11 (fun _ => rfl) H
theorem e_Bd_areEngines (d : Nat) (a0 a1 : Int) (m : zM) (h : zH) (Q : zQ) (H : q_Bd_areEngines_0 d a0 a1 m h Q) : zcal WP (d + 1) n_Bd_areEngines [.inr (.inr a0), .inl a1] m h Q := zcal_mk rfl H
def zm_Bd_isMan : Nat → Option (List Bool) := fun pc => none
abbrev q_Bd_isMan_0 (d : Nat) (a0 a1 : Int) (m : zM) (h : zH) (Q : zQ) : Prop := WP d n_Bd_isMan 0 [some (.inr (.inr a0)), some (.inl a1)] [] m h Q
set_option maxRecDepth 100000 in
set_option maxHeartbeats 8000000 in
theorem s_Bd_isMan_0 (d : Nat) (a0 a1 : Int) (m : zM) (h : zH) (Q : zQ) (H :
  kd h a0 = 2 ∧ zcal WP d n_Es_within [.inl a1, .inl 0, .inl (w32 ((m a0 5) - 1))] m h (zk1 fun r1 m1 h1 =>
  (r1 = 0 ∨ r1 = 1) ∧ Q (some (.inl r1)) m1 h1)) : q_Bd_isMan_0 d a0 a1 m h Q := zvc_ok zc_Bd_isMan zm_Bd_isMan 9 (fun _ => rfl) H
theorem e_Bd_isMan (d : Nat) (a0 a1 : Int) (m : zM) (h : zH) (Q : zQ) (H : q_Bd_isMan_0 d a0 a1 m h Q) : zcal WP (d + 1) n_Bd_isMan [.inr (.inr a0), .inl a1] m h Q := zcal_mk rfl H
def zm_Bd_isTurn : Nat → Option (List Bool) := fun pc => none
abbrev q_Bd_isTurn_0 (d : Nat) (a0 a1 : Int) (m : zM) (h : zH) (Q : zQ) : Prop := WP d n_Bd_isTurn 0 [some (.inr (.inr a0)), some (.inl a1)] [] m h Q
set_option maxRecDepth 100000 in
set_option maxHeartbeats 8000000 in
theorem s_Bd_isTurn_0 (d : Nat) (a0 a1 : Int) (m : zM) (h : zH) (Q : zQ) (H :
  kd h a0 = 2 ∧ zcal WP d n_Es_within [.inl a1, .inl 0, .inl (w32 ((m a0 7) - 1))] m h (zk1 fun r1 m1 h1 =>
  (r1 = 0 ∨ r1 = 1) ∧ Q (some (.inl r1)) m1 h1)) : q_Bd_isTurn_0 d a0 a1 m h Q := zvc_ok zc_Bd_isTurn zm_Bd_isTurn 9 (fun _ => rfl) H
theorem e_Bd_isTurn (d : Nat) (a0 a1 : Int) (m : zM) (h : zH) (Q : zQ) (H : q_Bd_isTurn_0 d a0 a1 m h Q) : zcal WP (d + 1) n_Bd_isTurn [.inr (.inr a0), .inl a1] m h Q := zcal_mk rfl H
def zm_Bd_areTurns : Nat → Option (List Bool) := fun pc => none
abbrev q_Bd_areTurns_0 (d : Nat) (a0 a1 : Int) (m : zM) (h : zH) (Q : zQ) : Prop := WP d n_Bd_areTurns 0 [some (.inr (.inr a0)), some (.inl a1)] [] m h Q
set_option maxRecDepth 100000 in
set_option maxHeartbeats 8000000 in
theorem s_Bd_areTurns_0 (d : Nat) (a0 a1 : Int) (m : zM) (h : zH) (Q : zQ) (H :
  kd h a0 = 2 ∧ zcal WP d n_Es_within [.inl a1, .inl 0, .inl (w32 ((zshl 1 (m a0 7)) - 1))] m h (zk1 fun r1 m1 h1 =>
  (r1 = 0 ∨ r1 = 1) ∧ Q (some (.inl r1)) m1 h1)) : q_Bd_areTurns_0 d a0 a1 m h Q := zvc_ok zc_Bd_areTurns zm_Bd_areTurns 11 (fun _ => rfl) H
theorem e_Bd_areTurns (d : Nat) (a0 a1 : Int) (m : zM) (h : zH) (Q : zQ) (H : q_Bd_areTurns_0 d a0 a1 m h Q) : zcal WP (d + 1) n_Bd_areTurns [.inr (.inr a0), .inl a1] m h Q := zcal_mk rfl H
def zm_Bd_isKnown : Nat → Option (List Bool) := fun pc => none
abbrev q_Bd_isKnown_0 (d : Nat) (a0 a1 : Int) (m : zM) (h : zH) (Q : zQ) : Prop := WP d n_Bd_isKnown 0 [some (.inr (.inr a0)), some (.inl a1)] [] m h Q
set_option maxRecDepth 100000 in
set_option maxHeartbeats 8000000 in
theorem s_Bd_isKnown_0 (d : Nat) (a0 a1 : Int) (m : zM) (h : zH) (Q : zQ) (H :
  kd h a0 = 2 ∧ zcal WP d n_Es_within [.inl a1, .inl 0, .inl (m a0 9)] m h (zk1 fun r1 m1 h1 =>
  (r1 = 0 ∨ r1 = 1) ∧ Q (some (.inl r1)) m1 h1)) : q_Bd_isKnown_0 d a0 a1 m h Q := zvc_ok zc_Bd_isKnown zm_Bd_isKnown 7 (fun _ => rfl) H
theorem e_Bd_isKnown (d : Nat) (a0 a1 : Int) (m : zM) (h : zH) (Q : zQ) (H : q_Bd_isKnown_0 d a0 a1 m h Q) : zcal WP (d + 1) n_Bd_isKnown [.inr (.inr a0), .inl a1] m h Q := zcal_mk rfl H
def zm_Bd_takesFact : Nat → Option (List Bool) := fun pc => none
abbrev q_Bd_takesFact_0 (d : Nat) (a0 a1 a2 : Int) (m : zM) (h : zH) (Q : zQ) : Prop := WP d n_Bd_takesFact 0 [some (.inr (.inr a0)), some (.inl a1), some (.inl a2)] [] m h Q
set_option maxRecDepth 100000 in
set_option maxHeartbeats 8000000 in
theorem s_Bd_takesFact_0 (d : Nat) (a0 a1 a2 : Int) (m : zM) (h : zH) (Q : zQ) (H :
  kd h a0 = 2 ∧ ((180 : Int) ≤ (m a0 9) →
    ((0 : Int) = 0 ∨ (0 : Int) = 1) ∧ Q (some (.inl (0 : Int))) m h) ∧
  (¬ ((180 : Int) ≤ (m a0 9)) →
    kd h a0 = 2 ∧ zcal WP d n_Bd_isEngine [.inr (.inr a0), .inl a1] m h (zk1 fun r1 m1 h1 =>
    (r1 = 0 →
      ((0 : Int) = 0 ∨ (0 : Int) = 1) ∧ Q (some (.inl (0 : Int))) m1 h1) ∧
    (¬ (r1 = 0) →
      zcal WP d n_Es_isDay [.inl a2] m1 h1 (zk1 fun r2 m2 h2 =>
      (r2 = 0 →
        ((0 : Int) = 0 ∨ (0 : Int) = 1) ∧ Q (some (.inl (0 : Int))) m2 h2) ∧
      (¬ (r2 = 0) →
        ((1 : Int) = 0 ∨ (1 : Int) = 1) ∧ Q (some (.inl (1 : Int))) m2 h2)))))) : q_Bd_takesFact_0 d a0 a1 a2 m h Q := zvc_ok zc_Bd_takesFact zm_Bd_takesFact 16 (fun _ => rfl) H
theorem e_Bd_takesFact (d : Nat) (a0 a1 a2 : Int) (m : zM) (h : zH) (Q : zQ) (H : q_Bd_takesFact_0 d a0 a1 a2 m h Q) : zcal WP (d + 1) n_Bd_takesFact [.inr (.inr a0), .inl a1, .inl a2] m h Q := zcal_mk rfl H
def zm_Bd_addEngine : Nat → Option (List Bool) := fun pc => none
abbrev q_Bd_addEngine_0 (d : Nat) (a0 a1 : Int) (m : zM) (h : zH) (Q : zQ) : Prop := WP d n_Bd_addEngine 0 [some (.inr (.inr a0)), some (.inr (.inr a1))] [] m h Q
set_option maxRecDepth 100000 in
set_option maxHeartbeats 8000000 in
theorem s_Bd_addEngine_0 (d : Nat) (a0 a1 : Int) (m : zM) (h : zH) (Q : zQ) (H :
  kd h a0 = 2 ∧ kd h a0 = 2 ∧ kd h (m a0 2) = 116 ∧ 0 < (m a0 2) ∧ kd h a1 = 6 ∧ (0 : Int) ≤ (m a0 3) ∧ (m a0 3) < ln h (m a0 2) ∧ ∀ m1, m1 = zwr m (m a0 2) (m a0 3) a1 →
  kd h a0 = 2 ∧ kd h a0 = 2 ∧ 0 < a0 ∧ ∀ m2, m2 = zwr m1 a0 3 (w32 ((m1 a0 3) + 1)) →
  kd h a0 = 2 ∧ zcal WP d n_Bd_forget [.inr (.inr a0)] m2 h (zk0 fun m3 h3 =>
  kd h3 a0 = 2 ∧ Q (some (.inl (w32 ((m3 a0 3) - 1)))) m3 h3)) : q_Bd_addEngine_0 d a0 a1 m h Q := zvc_ok zc_Bd_addEngine zm_Bd_addEngine 20 (fun _ => rfl) H
theorem e_Bd_addEngine (d : Nat) (a0 a1 : Int) (m : zM) (h : zH) (Q : zQ) (H : q_Bd_addEngine_0 d a0 a1 m h Q) : zcal WP (d + 1) n_Bd_addEngine [.inr (.inr a0), .inr (.inr a1)] m h Q := zcal_mk rfl H
def zm_Bd_addTurn : Nat → Option (List Bool) := fun pc => none
abbrev q_Bd_addTurn_0 (d : Nat) (a0 a1 : Int) (m : zM) (h : zH) (Q : zQ) : Prop := WP d n_Bd_addTurn 0 [some (.inr (.inr a0)), some (.inr (.inr a1))] [] m h Q
set_option maxRecDepth 100000 in
set_option maxHeartbeats 8000000 in
theorem s_Bd_addTurn_0 (d : Nat) (a0 a1 : Int) (m : zM) (h : zH) (Q : zQ) (H :
  kd h a0 = 2 ∧ kd h a0 = 2 ∧ kd h (m a0 6) = 121 ∧ 0 < (m a0 6) ∧ kd h a1 = 11 ∧ (0 : Int) ≤ (m a0 7) ∧ (m a0 7) < ln h (m a0 6) ∧ ∀ m1, m1 = zwr m (m a0 6) (m a0 7) a1 →
  kd h a0 = 2 ∧ kd h a0 = 2 ∧ 0 < a0 ∧ ∀ m2, m2 = zwr m1 a0 7 (w32 ((m1 a0 7) + 1)) →
  kd h a0 = 2 ∧ Q (some (.inl (w32 ((m2 a0 7) - 1)))) m2 h) : q_Bd_addTurn_0 d a0 a1 m h Q := zvc_ok zc_Bd_addTurn zm_Bd_addTurn 18 (fun _ => rfl) H
theorem e_Bd_addTurn (d : Nat) (a0 a1 : Int) (m : zM) (h : zH) (Q : zQ) (H : q_Bd_addTurn_0 d a0 a1 m h Q) : zcal WP (d + 1) n_Bd_addTurn [.inr (.inr a0), .inr (.inr a1)] m h Q := zcal_mk rfl H
def zm_Bd_addFact : Nat → Option (List Bool) := fun pc => bif Nat.beq pc 25 then some [true, true, true] else (bif Nat.beq pc 72 then some [true, true, true] else (bif Nat.beq pc 92 then some [true, true, false] else (none)))
abbrev q_Bd_addFact_0 (d : Nat) (a0 a1 : Int) (m : zM) (h : zH) (Q : zQ) : Prop := WP d n_Bd_addFact 0 [some (.inr (.inr a0)), some (.inr (.inr a1)), none] [] m h Q
abbrev q_Bd_addFact_25 (d : Nat) (a0 a1 a2 : Int) (m : zM) (h : zH) (Q : zQ) : Prop := WP d n_Bd_addFact 25 [some (.inr (.inr a0)), some (.inr (.inr a1)), some (.inl a2)] [] m h Q
abbrev q_Bd_addFact_72 (d : Nat) (a0 a1 a2 : Int) (m : zM) (h : zH) (Q : zQ) : Prop := WP d n_Bd_addFact 72 [some (.inr (.inr a0)), some (.inr (.inr a1)), some (.inl a2)] [] m h Q
abbrev q_Bd_addFact_92 (d : Nat) (a0 a1 : Int) (m : zM) (h : zH) (Q : zQ) : Prop := WP d n_Bd_addFact 92 [some (.inr (.inr a0)), some (.inr (.inr a1)), none] [] m h Q
set_option maxRecDepth 100000 in
set_option maxHeartbeats 8000000 in
theorem s_Bd_addFact_0 (d : Nat) (a0 a1 : Int) (m : zM) (h : zH) (Q : zQ) (H :
  kd h a0 = 2 ∧ ((m a0 9) < 180 →
    kd h a1 = 7 ∧ ((m a1 0) = 5 →
      q_Bd_addFact_92 d a0 a1 m h Q) ∧
    (¬ ((m a1 0) = 5) →
      kd h a0 = 2 ∧ q_Bd_addFact_25 d a0 a1 (m a0 12) m h Q)) ∧
  (¬ ((m a0 9) < 180) →
    Q (some (.inl ((-1)))) m h)) : q_Bd_addFact_0 d a0 a1 m h Q := zvc_ok zc_Bd_addFact zm_Bd_addFact 70 (fun _ => rfl) H
set_option maxRecDepth 100000 in
set_option maxHeartbeats 8000000 in
theorem s_Bd_addFact_25 (d : Nat) (a0 a1 a2 : Int) (m : zM) (h : zH) (Q : zQ) (H :
  (a2 ≤ 0 →
    q_Bd_addFact_72 d a0 a1 a2 m h Q) ∧
  (¬ (a2 ≤ 0) →
    kd h a0 = 2 ∧ kd h a0 = 2 ∧ kd h (m a0 11) = 101 ∧ (0 : Int) ≤ (w32 (a2 - 1)) ∧ (w32 (a2 - 1)) < ln h (m a0 11) ∧ kd h (m a0 8) = 117 ∧ (0 : Int) ≤ (m (m a0 11) (w32 (a2 - 1))) ∧ (m (m a0 11) (w32 (a2 - 1))) < ln h (m a0 8) ∧ kd h (m (m a0 8) (m (m a0 11) (w32 (a2 - 1)))) = 7 ∧ kd h a1 = 7 ∧ ((m (m (m a0 8) (m (m a0 11) (w32 (a2 - 1)))) 2) ≤ (m a1 2) →
      q_Bd_addFact_72 d a0 a1 a2 m h Q) ∧
    (¬ ((m (m (m a0 8) (m (m a0 11) (w32 (a2 - 1)))) 2) ≤ (m a1 2)) →
      kd h a0 = 2 ∧ kd h a0 = 2 ∧ kd h (m a0 11) = 101 ∧ (0 : Int) ≤ (w32 (a2 - 1)) ∧ (w32 (a2 - 1)) < ln h (m a0 11) ∧ kd h (m a0 11) = 101 ∧ 0 < (m a0 11) ∧ (0 : Int) ≤ a2 ∧ a2 < ln h (m a0 11) ∧ ∀ m1, m1 = zwr m (m a0 11) a2 (m (m a0 11) (w32 (a2 - 1))) →
      q_Bd_addFact_25 d a0 a1 (w32 (a2 + (-1))) m1 h Q))) : q_Bd_addFact_25 d a0 a1 a2 m h Q := zvc_ok zc_Bd_addFact zm_Bd_addFact 70 (fun _ => rfl) H
set_option maxRecDepth 100000 in
set_option maxHeartbeats 8000000 in
theorem s_Bd_addFact_72 (d : Nat) (a0 a1 a2 : Int) (m : zM) (h : zH) (Q : zQ) (H :
  kd h a0 = 2 ∧ kd h a0 = 2 ∧ kd h (m a0 11) = 101 ∧ 0 < (m a0 11) ∧ (0 : Int) ≤ a2 ∧ a2 < ln h (m a0 11) ∧ ∀ m1, m1 = zwr m (m a0 11) a2 (m a0 9) →
  kd h a0 = 2 ∧ kd h a0 = 2 ∧ 0 < a0 ∧ ∀ m2, m2 = zwr m1 a0 12 (w32 ((m1 a0 12) + 1)) →
  q_Bd_addFact_92 d a0 a1 m2 h Q) : q_Bd_addFact_72 d a0 a1 a2 m h Q := zvc_ok zc_Bd_addFact zm_Bd_addFact 70 (fun _ => rfl) H
set_option maxRecDepth 100000 in
set_option maxHeartbeats 8000000 in
theorem s_Bd_addFact_92 (d : Nat) (a0 a1 : Int) (m : zM) (h : zH) (Q : zQ) (H :
  kd h a0 = 2 ∧ kd h a0 = 2 ∧ kd h (m a0 8) = 117 ∧ 0 < (m a0 8) ∧ kd h a1 = 7 ∧ (0 : Int) ≤ (m a0 9) ∧ (m a0 9) < ln h (m a0 8) ∧ ∀ m1, m1 = zwr m (m a0 8) (m a0 9) a1 →
  kd h a0 = 2 ∧ kd h a0 = 2 ∧ 0 < a0 ∧ ∀ m2, m2 = zwr m1 a0 9 (w32 ((m1 a0 9) + 1)) →
  kd h a0 = 2 ∧ Q (some (.inl (w32 ((m2 a0 9) - 1)))) m2 h) : q_Bd_addFact_92 d a0 a1 m h Q := zvc_ok zc_Bd_addFact zm_Bd_addFact 70 (fun _ => rfl) H
theorem e_Bd_addFact (d : Nat) (a0 a1 : Int) (m : zM) (h : zH) (Q : zQ) (H : q_Bd_addFact_0 d a0 a1 m h Q) : zcal WP (d + 1) n_Bd_addFact [.inr (.inr a0), .inr (.inr a1)] m h Q := zcal_mk rfl H
def zm_Bd_forget : Nat → Option (List Bool) := fun pc => none
abbrev q_Bd_forget_0 (d : Nat) (a0 : Int) (m : zM) (h : zH) (Q : zQ) : Prop := WP d n_Bd_forget 0 [some (.inr (.inr a0))] [] m h Q
set_option maxRecDepth 100000 in
set_option maxHeartbeats 8000000 in
theorem s_Bd_forget_0 (d : Nat) (a0 : Int) (m : zM) (h : zH) (Q : zQ) (H :
  kd h a0 = 2 ∧ 0 < a0 ∧ ∀ m1, m1 = zwr m a0 17 ((-1)) →
  Q none m1 h) : q_Bd_forget_0 d a0 m h Q := zvc_ok zc_Bd_forget zm_Bd_forget 5 (fun _ => rfl) H
theorem e_Bd_forget (d : Nat) (a0 : Int) (m : zM) (h : zH) (Q : zQ) (H : q_Bd_forget_0 d a0 m h Q) : zcal WP (d + 1) n_Bd_forget [.inr (.inr a0)] m h Q := zcal_mk rfl H
def zm_Bd_factOf : Nat → Option (List Bool) := fun pc => bif Nat.beq pc 24 then some [true, true, false, true, false] else (none)
abbrev q_Bd_factOf_0 (d : Nat) (a0 a1 a2 a3 : Int) (m : zM) (h : zH) (Q : zQ) : Prop := WP d n_Bd_factOf 0 [some (.inr (.inr a0)), some (.inl a1), some (.inl a2), some (.inl a3), none] [] m h Q
abbrev q_Bd_factOf_24 (d : Nat) (a0 a1 a3 s0 : Int) (m : zM) (h : zH) (Q : zQ) : Prop := WP d n_Bd_factOf 24 [some (.inr (.inr a0)), some (.inl a1), none, some (.inl a3), none] [.inl s0] m h Q
set_option maxRecDepth 100000 in
set_option maxHeartbeats 8000000 in
theorem s_Bd_factOf_0 (d : Nat) (a0 a1 a2 a3 : Int) (m : zM) (h : zH) (Q : zQ) (H :
  kd h a0 = 2 ∧ zcal WP d n_Bd_isKnown [.inr (.inr a0), .inl a2] m h (zk1 fun r1 m1 h1 =>
  (r1 = 0 →
    q_Bd_factOf_24 d a0 a1 a3 0 m1 h1 Q) ∧
  (¬ (r1 = 0) →
    zcal WP d n_Es_within [.inl a1, .inl 0, .inl (w32 (a2 - 1))] m1 h1 (zk1 fun r2 m2 h2 =>
    (r2 = 0 →
      q_Bd_factOf_24 d a0 a1 a3 0 m2 h2 Q) ∧
    (¬ (r2 = 0) →
      q_Bd_factOf_24 d a0 a1 a3 1 m2 h2 Q))))) : q_Bd_factOf_0 d a0 a1 a2 a3 m h Q := zvc_ok zc_Bd_factOf zm_Bd_factOf 32 (fun _ => rfl) H
set_option maxRecDepth 100000 in
set_option maxHeartbeats 8000000 in
theorem s_Bd_factOf_24 (d : Nat) (a0 a1 a3 s0 : Int) (m : zM) (h : zH) (Q : zQ) (H :
  (s0 = 0 →
    Q (some (.inr (.inr 0))) m h) ∧
  (¬ (s0 = 0) →
    kd h a0 = 2 ∧ kd h (m a0 8) = 117 ∧ (0 : Int) ≤ a1 ∧ a1 < ln h (m a0 8) ∧ kd h (m (m a0 8) a1) = 7 ∧ ((m (m (m a0 8) a1) 0) ≠ a3 →
      Q (some (.inr (.inr 0))) m h) ∧
    (¬ ((m (m (m a0 8) a1) 0) ≠ a3) →
      kd h a0 = 2 ∧ kd h (m a0 8) = 117 ∧ (0 : Int) ≤ a1 ∧ a1 < ln h (m a0 8) ∧ Q (some (.inr (.inr (m (m a0 8) a1)))) m h))) : q_Bd_factOf_24 d a0 a1 a3 s0 m h Q := zvc_ok zc_Bd_factOf zm_Bd_factOf 32 (fun _ => rfl) H
theorem e_Bd_factOf (d : Nat) (a0 a1 a2 a3 : Int) (m : zM) (h : zH) (Q : zQ) (H : q_Bd_factOf_0 d a0 a1 a2 a3 m h Q) : zcal WP (d + 1) n_Bd_factOf [.inr (.inr a0), .inl a1, .inl a2, .inl a3] m h Q := zcal_mk rfl H
def zm_Bd_settle : Nat → Option (List Bool) := fun pc => bif Nat.beq pc 33 then some [true, true, true, true, true, false] else (bif Nat.beq pc 100 then some [true, true, true, true, true, false] else (none))
abbrev q_Bd_settle_0 (d : Nat) (a0 a1 a2 a3 : Int) (m : zM) (h : zH) (Q : zQ) : Prop := WP d n_Bd_settle 0 [some (.inr (.inr a0)), some (.inl a1), some (.inl a2), some (.inl a3), none, none] [] m h Q
abbrev q_Bd_settle_33 (d : Nat) (a0 a1 a2 a3 a4 : Int) (m : zM) (h : zH) (Q : zQ) : Prop := WP d n_Bd_settle 33 [some (.inr (.inr a0)), some (.inl a1), some (.inl a2), some (.inl a3), some (.inl a4), none] [] m h Q
abbrev q_Bd_settle_100 (d : Nat) (a0 a1 a2 a3 a4 : Int) (m : zM) (h : zH) (Q : zQ) : Prop := WP d n_Bd_settle 100 [some (.inr (.inr a0)), some (.inl a1), some (.inl a2), some (.inl a3), some (.inl a4), none] [] m h Q
set_option maxRecDepth 100000 in
set_option maxHeartbeats 8000000 in
theorem s_Bd_settle_0 (d : Nat) (a0 a1 a2 a3 : Int) (m : zM) (h : zH) (Q : zQ) (H :
  kd h a0 = 2 ∧ (a1 ≠ (m a0 17) →
    kd h a0 = 2 ∧ zcal WP d n_Bd_startAnew [.inr (.inr a0), .inl a1] m h (zk0 fun m1 h1 =>
    q_Bd_settle_33 d a0 a1 a2 a3 0 m1 h1 Q)) ∧
  (¬ (a1 ≠ (m a0 17)) →
    kd h a0 = 2 ∧ (a2 ≠ (m a0 18) →
      kd h a0 = 2 ∧ zcal WP d n_Bd_startAnew [.inr (.inr a0), .inl a1] m h (zk0 fun m1 h1 =>
      q_Bd_settle_33 d a0 a1 a2 a3 0 m1 h1 Q)) ∧
    (¬ (a2 ≠ (m a0 18)) →
      kd h a0 = 2 ∧ (a3 ≠ (m a0 19) →
        kd h a0 = 2 ∧ zcal WP d n_Bd_startAnew [.inr (.inr a0), .inl a1] m h (zk0 fun m1 h1 =>
        q_Bd_settle_33 d a0 a1 a2 a3 0 m1 h1 Q)) ∧
      (¬ (a3 ≠ (m a0 19)) →
        Q none m h)))) : q_Bd_settle_0 d a0 a1 a2 a3 m h Q := zvc_ok zc_Bd_settle zm_Bd_settle 74 (fun _ => rfl) H
set_option maxRecDepth 100000 in
set_option maxHeartbeats 8000000 in
theorem s_Bd_settle_33 (d : Nat) (a0 a1 a2 a3 a4 : Int) (m : zM) (h : zH) (Q : zQ) (H :
  kd h a0 = 2 ∧ ((m a0 12) ≤ a4 →
    q_Bd_settle_100 d a0 a1 a2 a3 0 m h Q) ∧
  (¬ ((m a0 12) ≤ a4) →
    kd h a0 = 2 ∧ kd h a0 = 2 ∧ kd h (m a0 11) = 101 ∧ (0 : Int) ≤ a4 ∧ a4 < ln h (m a0 11) ∧ kd h (m a0 8) = 117 ∧ (0 : Int) ≤ (m (m a0 11) a4) ∧ (m (m a0 11) a4) < ln h (m a0 8) ∧ kd h (m (m a0 8) (m (m a0 11) a4)) = 7 ∧ ((m (m (m a0 8) (m (m a0 11) a4)) 2) ≤ a2 →
      kd h a0 = 2 ∧ kd h (m a0 11) = 101 ∧ (0 : Int) ≤ a4 ∧ a4 < ln h (m a0 11) ∧ (a1 ≤ (m (m a0 11) a4) →
        q_Bd_settle_33 d a0 a1 a2 a3 (w32 (a4 + 1)) m h Q) ∧
      (¬ (a1 ≤ (m (m a0 11) a4)) →
        kd h a0 = 2 ∧ zcal WP d n_Bd_openDay [.inr (.inr a0), .inr (.inr (m (m a0 8) (m (m a0 11) a4)))] m h (zk0 fun m1 h1 =>
        kd h1 a0 = 2 ∧ zcal WP d n_Bd_step [.inr (.inr a0), .inr (.inr (m (m a0 8) (m (m a0 11) a4)))] m1 h1 (zk0 fun m2 h2 =>
        q_Bd_settle_33 d a0 a1 a2 a3 (w32 (a4 + 1)) m2 h2 Q)))) ∧
    (¬ ((m (m (m a0 8) (m (m a0 11) a4)) 2) ≤ a2) →
      q_Bd_settle_100 d a0 a1 a2 a3 0 m h Q))) : q_Bd_settle_33 d a0 a1 a2 a3 a4 m h Q := zvc_ok zc_Bd_settle zm_Bd_settle 74 (fun _ => rfl) H
set_option maxRecDepth 100000 in
set_option maxHeartbeats 8000000 in
theorem s_Bd_settle_100 (d : Nat) (a0 a1 a2 a3 a4 : Int) (m : zM) (h : zH) (Q : zQ) (H :
  kd h a0 = 2 ∧ ((m a0 3) ≤ a4 →
    kd h a0 = 2 ∧ 0 < a0 ∧ ∀ m1, m1 = zwr m a0 17 a1 →
    kd h a0 = 2 ∧ 0 < a0 ∧ ∀ m2, m2 = zwr m1 a0 18 a2 →
    kd h a0 = 2 ∧ 0 < a0 ∧ ∀ m3, m3 = zwr m2 a0 19 a3 →
    Q none m3 h) ∧
  (¬ ((m a0 3) ≤ a4) →
    kd h a0 = 2 ∧ kd h (m a0 2) = 116 ∧ (0 : Int) ≤ a4 ∧ a4 < ln h (m a0 2) ∧ kd h (m (m a0 2) a4) = 6 ∧ zcal WP d n_En_startDay [.inr (.inr (m (m a0 2) a4)), .inl a3] m h (zk0 fun m1 h1 =>
    q_Bd_settle_100 d a0 a1 a2 a3 (w32 (a4 + 1)) m1 h1 Q))) : q_Bd_settle_100 d a0 a1 a2 a3 a4 m h Q := zvc_ok zc_Bd_settle zm_Bd_settle 74 (fun _ => rfl) H
theorem e_Bd_settle (d : Nat) (a0 a1 a2 a3 : Int) (m : zM) (h : zH) (Q : zQ) (H : q_Bd_settle_0 d a0 a1 a2 a3 m h Q) : zcal WP (d + 1) n_Bd_settle [.inr (.inr a0), .inl a1, .inl a2, .inl a3] m h Q := zcal_mk rfl H
def zm_Bd_startAnew : Nat → Option (List Bool) := fun pc => bif Nat.beq pc 7 then some [true, true, true, false] else (bif Nat.beq pc 32 then some [true, true, true, false] else (none))
abbrev q_Bd_startAnew_0 (d : Nat) (a0 a1 : Int) (m : zM) (h : zH) (Q : zQ) : Prop := WP d n_Bd_startAnew 0 [some (.inr (.inr a0)), some (.inl a1), none, none] [] m h Q
abbrev q_Bd_startAnew_7 (d : Nat) (a0 a1 a2 : Int) (m : zM) (h : zH) (Q : zQ) : Prop := WP d n_Bd_startAnew 7 [some (.inr (.inr a0)), some (.inl a1), some (.inl a2), none] [] m h Q
abbrev q_Bd_startAnew_32 (d : Nat) (a0 a1 a2 : Int) (m : zM) (h : zH) (Q : zQ) : Prop := WP d n_Bd_startAnew 32 [some (.inr (.inr a0)), some (.inl a1), some (.inl a2), none] [] m h Q
set_option maxRecDepth 100000 in
set_option maxHeartbeats 8000000 in
theorem s_Bd_startAnew_0 (d : Nat) (a0 a1 : Int) (m : zM) (h : zH) (Q : zQ) (H :
  kd h a0 = 2 ∧ 0 < a0 ∧ ∀ m1, m1 = zwr m a0 16 ((-1)) →
  q_Bd_startAnew_7 d a0 a1 0 m1 h Q) : q_Bd_startAnew_0 d a0 a1 m h Q := zvc_ok zc_Bd_startAnew zm_Bd_startAnew 55 (fun _ => rfl) H
set_option maxRecDepth 100000 in
set_option maxHeartbeats 8000000 in
theorem s_Bd_startAnew_7 (d : Nat) (a0 a1 a2 : Int) (m : zM) (h : zH) (Q : zQ) (H :
  kd h a0 = 2 ∧ ((m a0 3) ≤ a2 →
    q_Bd_startAnew_32 d a0 a1 0 m h Q) ∧
  (¬ ((m a0 3) ≤ a2) →
    kd h a0 = 2 ∧ kd h (m a0 2) = 116 ∧ (0 : Int) ≤ a2 ∧ a2 < ln h (m a0 2) ∧ kd h (m (m a0 2) a2) = 6 ∧ zcal WP d n_En_startAnew [.inr (.inr (m (m a0 2) a2))] m h (zk0 fun m1 h1 =>
    q_Bd_startAnew_7 d a0 a1 (w32 (a2 + 1)) m1 h1 Q))) : q_Bd_startAnew_7 d a0 a1 a2 m h Q := zvc_ok zc_Bd_startAnew zm_Bd_startAnew 55 (fun _ => rfl) H
set_option maxRecDepth 100000 in
set_option maxHeartbeats 8000000 in
theorem s_Bd_startAnew_32 (d : Nat) (a0 a1 a2 : Int) (m : zM) (h : zH) (Q : zQ) (H :
  (a1 ≤ a2 →
    Q none m h) ∧
  (¬ (a1 ≤ a2) →
    kd h a0 = 2 ∧ kd h (m a0 8) = 117 ∧ (0 : Int) ≤ a2 ∧ a2 < ln h (m a0 8) ∧ kd h (m (m a0 8) a2) = 7 ∧ ((m (m (m a0 8) a2) 0) ≠ 4 →
      kd h (m (m a0 8) a2) = 7 ∧ ((m (m (m a0 8) a2) 0) ≠ 5 →
        q_Bd_startAnew_32 d a0 a1 (w32 (a2 + 1)) m h Q) ∧
      (¬ ((m (m (m a0 8) a2) 0) ≠ 5) →
        kd h a0 = 2 ∧ kd h (m (m a0 8) a2) = 7 ∧ kd h (m a0 8) = 117 ∧ (0 : Int) ≤ (m (m (m a0 8) a2) 7) ∧ (m (m (m a0 8) a2) 7) < ln h (m a0 8) ∧ kd h (m (m a0 8) a2) = 7 ∧ kd h (m (m a0 8) (m (m (m a0 8) a2) 7)) = 7 ∧ 0 < (m (m a0 8) (m (m (m a0 8) a2) 7)) ∧ ∀ m1, m1 = zwr m (m (m a0 8) (m (m (m a0 8) a2) 7)) 8 (m (m (m a0 8) a2) 6) →
        q_Bd_startAnew_32 d a0 a1 (w32 (a2 + 1)) m1 h Q)) ∧
    (¬ ((m (m (m a0 8) a2) 0) ≠ 4) →
      kd h a0 = 2 ∧ kd h (m (m a0 8) a2) = 7 ∧ kd h (m a0 6) = 121 ∧ (0 : Int) ≤ (m (m (m a0 8) a2) 3) ∧ (m (m (m a0 8) a2) 3) < ln h (m a0 6) ∧ kd h (m (m a0 6) (m (m (m a0 8) a2) 3)) = 11 ∧ kd h (m (m a0 8) a2) = 7 ∧ 0 < (m (m a0 8) a2) ∧ ∀ m1, m1 = zwr m (m (m a0 8) a2) 8 (m (m (m a0 6) (m (m (m a0 8) a2) 3)) 6) →
      q_Bd_startAnew_32 d a0 a1 (w32 (a2 + 1)) m1 h Q))) : q_Bd_startAnew_32 d a0 a1 a2 m h Q := zvc_ok zc_Bd_startAnew zm_Bd_startAnew 55 (fun _ => rfl) H
theorem e_Bd_startAnew (d : Nat) (a0 a1 : Int) (m : zM) (h : zH) (Q : zQ) (H : q_Bd_startAnew_0 d a0 a1 m h Q) : zcal WP (d + 1) n_Bd_startAnew [.inr (.inr a0), .inl a1] m h Q := zcal_mk rfl H
def zm_Bd_openDay : Nat → Option (List Bool) := fun pc => bif Nat.beq pc 43 then some [true, true] else (none)
abbrev q_Bd_openDay_0 (d : Nat) (a0 a1 : Int) (m : zM) (h : zH) (Q : zQ) : Prop := WP d n_Bd_openDay 0 [some (.inr (.inr a0)), some (.inr (.inr a1))] [] m h Q
abbrev q_Bd_openDay_43 (d : Nat) (a0 a1 : Int) (m : zM) (h : zH) (Q : zQ) : Prop := WP d n_Bd_openDay 43 [some (.inr (.inr a0)), some (.inr (.inr a1))] [] m h Q
set_option maxRecDepth 100000 in
set_option maxHeartbeats 8000000 in
theorem s_Bd_openDay_0 (d : Nat) (a0 a1 : Int) (m : zM) (h : zH) (Q : zQ) (H :
  kd h a1 = 7 ∧ kd h a0 = 2 ∧ ((m a1 2) = (m a0 16) →
    q_Bd_openDay_43 d a0 a1 m h Q) ∧
  (¬ ((m a1 2) = (m a0 16)) →
    kd h a1 = 7 ∧ kd h a0 = 2 ∧ 0 < a0 ∧ ∀ m1, m1 = zwr m a0 16 (m a1 2) →
    kd h a0 = 2 ∧ kd h a0 = 2 ∧ kd h (m1 a0 10) = 3 ∧ zcal WP d n_Bk_openAt [.inr (.inr (m1 a0 10)), .inl (m1 a0 16)] m1 h (zk0 fun m2 h2 =>
    kd h2 a0 = 2 ∧ 0 < a0 ∧ ∀ m3, m3 = zwr m2 a0 15 0 →
    kd h2 a0 = 2 ∧ zcal WP d n_Jn_fill [.inr (.inr (m3 a0 14)), .inl 0] m3 h2 (zk0 fun m4 h4 =>
    q_Bd_openDay_43 d a0 a1 m4 h4 Q)))) : q_Bd_openDay_0 d a0 a1 m h Q := zvc_ok zc_Bd_openDay zm_Bd_openDay 60 (fun _ => rfl) H
set_option maxRecDepth 100000 in
set_option maxHeartbeats 8000000 in
theorem s_Bd_openDay_43 (d : Nat) (a0 a1 : Int) (m : zM) (h : zH) (Q : zQ) (H :
  kd h a1 = 7 ∧ kd h a0 = 2 ∧ zcal WP d n_Bd_isEngine [.inr (.inr a0), .inl (m a1 1)] m h (zk1 fun r1 m1 h1 =>
  (r1 = 0 →
    Q none m1 h1) ∧
  (¬ (r1 = 0) →
    kd h1 a0 = 2 ∧ kd h1 a1 = 7 ∧ kd h1 (m1 a0 2) = 116 ∧ (0 : Int) ≤ (m1 a1 1) ∧ (m1 a1 1) < ln h1 (m1 a0 2) ∧ kd h1 (m1 (m1 a0 2) (m1 a1 1)) = 6 ∧ kd h1 a0 = 2 ∧ ((m1 (m1 (m1 a0 2) (m1 a1 1)) 10) = (m1 a0 16) →
      Q none m1 h1) ∧
    (¬ ((m1 (m1 (m1 a0 2) (m1 a1 1)) 10) = (m1 a0 16)) →
      kd h1 a0 = 2 ∧ kd h1 a1 = 7 ∧ kd h1 (m1 a0 2) = 116 ∧ (0 : Int) ≤ (m1 a1 1) ∧ (m1 a1 1) < ln h1 (m1 a0 2) ∧ kd h1 a0 = 2 ∧ kd h1 (m1 (m1 a0 2) (m1 a1 1)) = 6 ∧ zcal WP d n_En_startDay [.inr (.inr (m1 (m1 a0 2) (m1 a1 1))), .inl (m1 a0 16)] m1 h1 (zk0 fun m2 h2 =>
      kd h2 a0 = 2 ∧ kd h2 a1 = 7 ∧ kd h2 (m2 a0 2) = 116 ∧ (0 : Int) ≤ (m2 a1 1) ∧ (m2 a1 1) < ln h2 (m2 a0 2) ∧ kd h2 a0 = 2 ∧ kd h2 a1 = 7 ∧ kd h2 (m2 a0 2) = 116 ∧ (0 : Int) ≤ (m2 a1 1) ∧ (m2 a1 1) < ln h2 (m2 a0 2) ∧ kd h2 a0 = 2 ∧ kd h2 a0 = 2 ∧ zcal WP d n_Bd_isDue [.inr (.inr a0), .inr (.inr (m2 (m2 a0 2) (m2 a1 1))), .inl (m2 a0 16)] m2 h2 (zk1 fun r3 m3 h3 =>
      (r3 = 0 ∨ r3 = 1) ∧ kd h3 (m2 (m2 a0 2) (m2 a1 1)) = 6 ∧ 0 < (m2 (m2 a0 2) (m2 a1 1)) ∧ ∀ m4, m4 = zwr m3 (m2 (m2 a0 2) (m2 a1 1)) 12 r3 →
      Q none m4 h3)))))) : q_Bd_openDay_43 d a0 a1 m h Q := zvc_ok zc_Bd_openDay zm_Bd_openDay 60 (fun _ => rfl) H
theorem e_Bd_openDay (d : Nat) (a0 a1 : Int) (m : zM) (h : zH) (Q : zQ) (H : q_Bd_openDay_0 d a0 a1 m h Q) : zcal WP (d + 1) n_Bd_openDay [.inr (.inr a0), .inr (.inr a1)] m h Q := zcal_mk rfl H
def zm_Bd_step : Nat → Option (List Bool) := fun pc => none
abbrev q_Bd_step_0 (d : Nat) (a0 a1 : Int) (m : zM) (h : zH) (Q : zQ) : Prop := WP d n_Bd_step 0 [some (.inr (.inr a0)), some (.inr (.inr a1)), none] [] m h Q
set_option maxRecDepth 100000 in
set_option maxHeartbeats 8000000 in
theorem s_Bd_step_0 (d : Nat) (a0 a1 : Int) (m : zM) (h : zH) (Q : zQ) (H :
  kd h a1 = 7 ∧ kd h a0 = 2 ∧ zcal WP d n_Bd_isEngine [.inr (.inr a0), .inl (m a1 1)] m h (zk1 fun r1 m1 h1 =>
  (r1 ≠ 0 →
    kd h1 a0 = 2 ∧ kd h1 a1 = 7 ∧ kd h1 (m1 a0 2) = 116 ∧ (0 : Int) ≤ (m1 a1 1) ∧ (m1 a1 1) < ln h1 (m1 a0 2) ∧ kd h1 a1 = 7 ∧ ((m1 a1 0) = 0 →
      kd h1 (m1 (m1 a0 2) (m1 a1 1)) = 6 ∧ zcal WP d n_En_wash [.inr (.inr (m1 (m1 a0 2) (m1 a1 1)))] m1 h1 (zk0 fun m2 h2 =>
      Q none m2 h2)) ∧
    (¬ (m1 a1 0) = 0 →
    ((m1 a1 0) = 1 →
      kd h1 (m1 (m1 a0 2) (m1 a1 1)) = 6 ∧ zcal WP d n_En_look [.inr (.inr (m1 (m1 a0 2) (m1 a1 1)))] m1 h1 (zk0 fun m2 h2 =>
      Q none m2 h2)) ∧
    (¬ (m1 a1 0) = 1 →
    ((m1 a1 0) = 2 →
      ((0 : Int) = 0 ∨ (0 : Int) = 1) ∧ kd h1 (m1 (m1 a0 2) (m1 a1 1)) = 6 ∧ 0 < (m1 (m1 a0 2) (m1 a1 1)) ∧ ∀ m2, m2 = zwr m1 (m1 (m1 a0 2) (m1 a1 1)) 4 0 →
      Q none m2 h1) ∧
    (¬ (m1 a1 0) = 2 →
    ((m1 a1 0) = 3 →
      kd h1 (m1 (m1 a0 2) (m1 a1 1)) = 6 ∧ kd h1 (m1 (m1 a0 2) (m1 a1 1)) = 6 ∧ zcal WP d n_En_lendTo [.inr (.inr (m1 (m1 a0 2) (m1 a1 1))), .inl (m1 (m1 (m1 a0 2) (m1 a1 1)) 1)] m1 h1 (zk0 fun m2 h2 =>
      Q none m2 h2)) ∧
    (¬ (m1 a1 0) = 3 →
    ((m1 a1 0) = 4 →
      kd h1 a0 = 2 ∧ zcal WP d n_Bd_stepRun [.inr (.inr a0), .inr (.inr a1), .inr (.inr (m1 (m1 a0 2) (m1 a1 1)))] m1 h1 (zk0 fun m2 h2 =>
      Q none m2 h2)) ∧
    (¬ (m1 a1 0) = 4 →
    ((m1 a1 0) = 5 →
      Q none m1 h1) ∧
    (¬ (m1 a1 0) = 5 →
    ((m1 a1 0) = 6 →
      kd h1 a1 = 7 ∧ kd h1 (m1 (m1 a0 2) (m1 a1 1)) = 6 ∧ zcal WP d n_En_enterShops [.inr (.inr (m1 (m1 a0 2) (m1 a1 1))), .inl (m1 a1 6)] m1 h1 (zk0 fun m2 h2 =>
      Q none m2 h2)) ∧
    (¬ (m1 a1 0) = 6 →
    ((m1 a1 0) = 7 →
      kd h1 a0 = 2 ∧ zcal WP d n_Bd_stepFails [.inr (.inr a0), .inr (.inr a1), .inr (.inr (m1 (m1 a0 2) (m1 a1 1)))] m1 h1 (zk0 fun m2 h2 =>
      Q none m2 h2)) ∧
    (¬ (m1 a1 0) = 7 →
    ((m1 a1 0) = 8 →
      kd h1 a1 = 7 ∧ kd h1 (m1 (m1 a0 2) (m1 a1 1)) = 6 ∧ zcal WP d n_En_lendTo [.inr (.inr (m1 (m1 a0 2) (m1 a1 1))), .inl (m1 a1 6)] m1 h1 (zk0 fun m2 h2 =>
      Q none m2 h2)) ∧
    (¬ (m1 a1 0) = 8 →
      Q none m1 h1)))))))))) ∧
  (¬ (r1 ≠ 0) →
    Q none m1 h1))) : q_Bd_step_0 d a0 a1 m h Q := zvc_ok zc_Bd_step zm_Bd_step 52 (fun _ => rfl) H
theorem e_Bd_step (d : Nat) (a0 a1 : Int) (m : zM) (h : zH) (Q : zQ) (H : q_Bd_step_0 d a0 a1 m h Q) : zcal WP (d + 1) n_Bd_step [.inr (.inr a0), .inr (.inr a1)] m h Q := zcal_mk rfl H
def zm_Bd_stepRun : Nat → Option (List Bool) := fun pc => bif Nat.beq pc 73 then some [true, true, true, true] else (none)
abbrev q_Bd_stepRun_0 (d : Nat) (a0 a1 a2 : Int) (m : zM) (h : zH) (Q : zQ) : Prop := WP d n_Bd_stepRun 0 [some (.inr (.inr a0)), some (.inr (.inr a1)), some (.inr (.inr a2)), none] [] m h Q
abbrev q_Bd_stepRun_73 (d : Nat) (a0 a1 a2 a3 : Int) (m : zM) (h : zH) (Q : zQ) : Prop := WP d n_Bd_stepRun 73 [some (.inr (.inr a0)), some (.inr (.inr a1)), some (.inr (.inr a2)), some (.inr (.inr a3))] [] m h Q
set_option maxRecDepth 100000 in
set_option maxHeartbeats 8000000 in
theorem s_Bd_stepRun_0 (d : Nat) (a0 a1 a2 : Int) (m : zM) (h : zH) (Q : zQ) (H :
  kd h a0 = 2 ∧ kd h a1 = 7 ∧ kd h (m a0 6) = 121 ∧ (0 : Int) ≤ (m a1 3) ∧ (m a1 3) < ln h (m a0 6) ∧ kd h a0 = 2 ∧ kd h a0 = 2 ∧ kd h (m a0 10) = 3 ∧ zcal WP d n_Bk_lookAt [.inr (.inr (m a0 10)), .inr (.inr a2), .inl (m a0 16), .inr (.inr (m (m a0 6) (m a1 3)))] m h (zk0 fun m1 h1 =>
  zcal WP d n_Bd_whyNotEngine [.inr (.inr a2), .inr (.inr (m (m a0 6) (m a1 3)))] m1 h1 (zk1 fun r2 m2 h2 =>
  kd h2 a1 = 7 ∧ 0 < a1 ∧ ∀ m3, m3 = zwr m2 a1 9 r2 →
  kd h2 a1 = 7 ∧ ((m3 a1 9) ≠ 0 →
    q_Bd_stepRun_73 d a0 a1 a2 (m (m a0 6) (m a1 3)) m3 h2 Q) ∧
  (¬ ((m3 a1 9) ≠ 0) →
    kd h2 a0 = 2 ∧ kd h2 (m3 a0 10) = 3 ∧ zcal WP d n_Bk_firstHolding [.inr (.inr (m3 a0 10)), .inl 0] m3 h2 (zk1 fun r4 m4 h4 =>
    kd h4 a1 = 7 ∧ 0 < a1 ∧ ∀ m5, m5 = zwr m4 a1 10 r4 →
    kd h4 a1 = 7 ∧ ((m5 a1 10) ≠ ((-1)) →
      kd h4 a1 = 7 ∧ 0 < a1 ∧ ∀ m6, m6 = zwr m5 a1 9 4 →
      q_Bd_stepRun_73 d a0 a1 a2 (m (m a0 6) (m a1 3)) m6 h4 Q) ∧
    (¬ ((m5 a1 10) ≠ ((-1))) →
      kd h4 a0 = 2 ∧ zcal WP d n_Bd_whyNotMan [.inr (.inr a0), .inr (.inr a1), .inr (.inr (m (m a0 6) (m a1 3)))] m5 h4 (zk1 fun r6 m6 h6 =>
      kd h6 a1 = 7 ∧ 0 < a1 ∧ ∀ m7, m7 = zwr m6 a1 9 r6 →
      q_Bd_stepRun_73 d a0 a1 a2 (m (m a0 6) (m a1 3)) m7 h6 Q))))))) : q_Bd_stepRun_0 d a0 a1 a2 m h Q := zvc_ok zc_Bd_stepRun zm_Bd_stepRun 124 (fun _ => rfl) H
set_option maxRecDepth 100000 in
set_option maxHeartbeats 8000000 in
theorem s_Bd_stepRun_73 (d : Nat) (a0 a1 a2 a3 : Int) (m : zM) (h : zH) (Q : zQ) (H :
  kd h a1 = 7 ∧ ((m a1 9) = 0 →
    kd h a0 = 2 ∧ kd h a0 = 2 ∧ kd h (m a0 10) = 3 ∧ zcal WP d n_Bk_firstHolding [.inr (.inr (m a0 10)), .inl 2] m h (zk1 fun r1 m1 h1 =>
    kd h1 (m a0 10) = 3 ∧ zcal WP d n_Bk_amount [.inr (.inr (m a0 10)), .inl r1, .inl 999] m1 h1 (zk1 fun r2 m2 h2 =>
    kd h2 a1 = 7 ∧ 0 < a1 ∧ ∀ m3, m3 = zwr m2 a1 12 r2 →
    kd h2 a0 = 2 ∧ kd h2 a0 = 2 ∧ kd h2 (m3 a0 10) = 3 ∧ zcal WP d n_Bk_firstHolding [.inr (.inr (m3 a0 10)), .inl 3] m3 h2 (zk1 fun r4 m4 h4 =>
    kd h4 (m3 a0 10) = 3 ∧ zcal WP d n_Bk_amount [.inr (.inr (m3 a0 10)), .inl r4, .inl 999] m4 h4 (zk1 fun r5 m5 h5 =>
    kd h5 a1 = 7 ∧ 0 < a1 ∧ ∀ m6, m6 = zwr m5 a1 13 r5 →
    kd h5 a1 = 7 ∧ kd h5 a1 = 7 ∧ 0 < a1 ∧ ∀ m7, m7 = zwr m6 a1 11 (m6 a1 8) →
    kd h5 a2 = 6 ∧ kd h5 a1 = 7 ∧ 0 < a1 ∧ ∀ m8, m8 = zwr m7 a1 14 (m7 a2 6) →
    kd h5 a2 = 6 ∧ ((m8 a2 12) = 0 ∨ (m8 a2 12) = 1) ∧ kd h5 a1 = 7 ∧ 0 < a1 ∧ ∀ m9, m9 = zwr m8 a1 15 (m8 a2 12) →
    ((0 : Int) = 0 ∨ (0 : Int) = 1) ∧ kd h5 a1 = 7 ∧ 0 < a1 ∧ ∀ m10, m10 = zwr m9 a1 16 0 →
    kd h5 a2 = 6 ∧ kd h5 a1 = 7 ∧ kd h5 a2 = 6 ∧ 0 < a2 ∧ ∀ m11, m11 = zwr m10 a2 6 (w32 ((m10 a2 6) + (m10 a1 11))) →
    kd h5 a2 = 6 ∧ kd h5 a1 = 7 ∧ kd h5 a2 = 6 ∧ 0 < a2 ∧ ∀ m12, m12 = zwr m11 a2 7 (w32 ((m11 a2 7) + (m11 a1 12))) →
    kd h5 a3 = 11 ∧ kd h5 a2 = 6 ∧ 0 < a2 ∧ ∀ m13, m13 = zwr m12 a2 2 (m12 a3 5) →
    kd h5 a3 = 11 ∧ kd h5 a2 = 6 ∧ 0 < a2 ∧ ∀ m14, m14 = zwr m13 a2 13 (m13 a3 2) →
    kd h5 a2 = 6 ∧ 0 < a2 ∧ ∀ m15, m15 = zwr m14 a2 14 a1 →
    kd h5 a0 = 2 ∧ kd h5 a1 = 7 ∧ kd h5 (m15 a0 14) = 101 ∧ (0 : Int) ≤ (m15 a1 4) ∧ (m15 a1 4) < ln h5 (m15 a0 14) ∧ kd h5 a3 = 11 ∧ zcal WP d n_Tu_hourBits [.inr (.inr a3)] m15 h5 (zk1 fun r16 m16 h16 =>
    kd h16 (m15 a0 14) = 101 ∧ 0 < (m15 a0 14) ∧ (0 : Int) ≤ (m15 a1 4) ∧ (m15 a1 4) < ln h16 (m15 a0 14) ∧ ∀ m17, m17 = zwr m16 (m15 a0 14) (m15 a1 4) (zor (m15 (m15 a0 14) (m15 a1 4)) r16) →
    kd h16 a0 = 2 ∧ kd h16 a1 = 7 ∧ kd h16 a0 = 2 ∧ 0 < a0 ∧ ∀ m18, m18 = zwr m17 a0 15 (zor (m17 a0 15) (zshl 1 (m17 a1 3))) →
    Q none m18 h16)))))) ∧
  (¬ ((m a1 9) = 0) →
    Q none m h)) : q_Bd_stepRun_73 d a0 a1 a2 a3 m h Q := zvc_ok zc_Bd_stepRun zm_Bd_stepRun 124 (fun _ => rfl) H
theorem e_Bd_stepRun (d : Nat) (a0 a1 a2 : Int) (m : zM) (h : zH) (Q : zQ) (H : q_Bd_stepRun_0 d a0 a1 a2 m h Q) : zcal WP (d + 1) n_Bd_stepRun [.inr (.inr a0), .inr (.inr a1), .inr (.inr a2)] m h Q := zcal_mk rfl H
def zm_Bd_whyNotEngine : Nat → Option (List Bool) := fun pc => none
abbrev q_Bd_whyNotEngine_0 (d : Nat) (a0 a1 : Int) (m : zM) (h : zH) (Q : zQ) : Prop := WP d n_Bd_whyNotEngine 0 [some (.inr (.inr a0)), some (.inr (.inr a1))] [] m h Q
set_option maxRecDepth 100000 in
set_option maxHeartbeats 8000000 in
theorem s_Bd_whyNotEngine_0 (d : Nat) (a0 a1 : Int) (m : zM) (h : zH) (Q : zQ) (H :
  kd h a0 = 6 ∧ zcal WP d n_En_isSound [.inr (.inr a0)] m h (zk1 fun r1 m1 h1 =>
  (r1 = 0 →
    Q (some (.inl (1 : Int))) m1 h1) ∧
  (¬ (r1 = 0) →
    kd h1 a0 = 6 ∧ ((m1 a0 11) = 0 →
      kd h1 a0 = 6 ∧ kd h1 a1 = 11 ∧ ((m1 a0 2) = (m1 a1 0) →
        kd h1 a0 = 6 ∧ kd h1 a1 = 11 ∧ ((m1 a0 13) ≤ (m1 a1 1) →
          Q (some (.inl (0 : Int))) m1 h1) ∧
        (¬ ((m1 a0 13) ≤ (m1 a1 1)) →
          Q (some (.inl (3 : Int))) m1 h1)) ∧
      (¬ ((m1 a0 2) = (m1 a1 0)) →
        Q (some (.inl (2 : Int))) m1 h1)) ∧
    (¬ ((m1 a0 11) = 0) →
      Q (some (.inl (1 : Int))) m1 h1)))) : q_Bd_whyNotEngine_0 d a0 a1 m h Q := zvc_ok zc_Bd_whyNotEngine zm_Bd_whyNotEngine 25 (fun _ => rfl) H
theorem e_Bd_whyNotEngine (d : Nat) (a0 a1 : Int) (m : zM) (h : zH) (Q : zQ) (H : q_Bd_whyNotEngine_0 d a0 a1 m h Q) : zcal WP (d + 1) n_Bd_whyNotEngine [.inr (.inr a0), .inr (.inr a1)] m h Q := zcal_mk rfl H
def zm_Bd_whyNotMan : Nat → Option (List Bool) := fun pc => none
abbrev q_Bd_whyNotMan_0 (d : Nat) (a0 a1 a2 : Int) (m : zM) (h : zH) (Q : zQ) : Prop := WP d n_Bd_whyNotMan 0 [some (.inr (.inr a0)), some (.inr (.inr a1)), some (.inr (.inr a2)), none] [] m h Q
set_option maxRecDepth 100000 in
set_option maxHeartbeats 8000000 in
theorem s_Bd_whyNotMan_0 (d : Nat) (a0 a1 a2 : Int) (m : zM) (h : zH) (Q : zQ) (H :
  kd h a0 = 2 ∧ kd h a1 = 7 ∧ kd h (m a0 14) = 101 ∧ (0 : Int) ≤ (m a1 4) ∧ (m a1 4) < ln h (m a0 14) ∧ kd h a2 = 11 ∧ zcal WP d n_Tu_hourBits [.inr (.inr a2)] m h (zk1 fun r1 m1 h1 =>
  ((zand (m (m a0 14) (m a1 4)) r1) ≠ 0 →
    Q (some (.inl (5 : Int))) m1 h1) ∧
  (¬ ((zand (m (m a0 14) (m a1 4)) r1) ≠ 0) →
    zcal WP d n_Jn_bitCount [.inl (m (m a0 14) (m a1 4))] m1 h1 (zk1 fun r2 m2 h2 =>
    kd h2 a2 = 11 ∧ kd h2 a2 = 11 ∧ ((w32 ((w32 (r2 + (m2 a2 2))) - (m2 a2 1))) ≤ 10 →
      kd h2 a0 = 2 ∧ kd h2 a1 = 7 ∧ kd h2 (m2 a0 4) = 101 ∧ (0 : Int) ≤ (m2 a1 4) ∧ (m2 a1 4) < ln h2 (m2 a0 4) ∧ kd h2 a2 = 11 ∧ ((zand (zshr (m2 (m2 a0 4) (m2 a1 4)) (m2 a2 4)) 1) ≠ 0 →
        kd h2 a0 = 2 ∧ kd h2 a1 = 7 ∧ ((zand (zshr (m2 a0 15) (m2 a1 3)) 1) = 0 →
          Q (some (.inl (0 : Int))) m2 h2) ∧
        (¬ ((zand (zshr (m2 a0 15) (m2 a1 3)) 1) = 0) →
          Q (some (.inl (7 : Int))) m2 h2)) ∧
      (¬ ((zand (zshr (m2 (m2 a0 4) (m2 a1 4)) (m2 a2 4)) 1) ≠ 0) →
        Q (some (.inl (6 : Int))) m2 h2)) ∧
    (¬ ((w32 ((w32 (r2 + (m2 a2 2))) - (m2 a2 1))) ≤ 10) →
      Q (some (.inl (5 : Int))) m2 h2))))) : q_Bd_whyNotMan_0 d a0 a1 a2 m h Q := zvc_ok zc_Bd_whyNotMan zm_Bd_whyNotMan 49 (fun _ => rfl) H
theorem e_Bd_whyNotMan (d : Nat) (a0 a1 a2 : Int) (m : zM) (h : zH) (Q : zQ) (H : q_Bd_whyNotMan_0 d a0 a1 a2 m h Q) : zcal WP (d + 1) n_Bd_whyNotMan [.inr (.inr a0), .inr (.inr a1), .inr (.inr a2)] m h Q := zcal_mk rfl H
def zm_Bd_stepFails : Nat → Option (List Bool) := fun pc => bif Nat.beq pc 88 then some [false, true, true, true, false] else (none)
abbrev q_Bd_stepFails_0 (d : Nat) (a0 a1 a2 : Int) (m : zM) (h : zH) (Q : zQ) : Prop := WP d n_Bd_stepFails 0 [some (.inr (.inr a0)), some (.inr (.inr a1)), some (.inr (.inr a2)), none, none] [] m h Q
abbrev q_Bd_stepFails_88 (d : Nat) (a1 a2 a3 : Int) (m : zM) (h : zH) (Q : zQ) : Prop := WP d n_Bd_stepFails 88 [none, some (.inr (.inr a1)), some (.inr (.inr a2)), some (.inr (.inr a3)), none] [] m h Q
set_option maxRecDepth 100000 in
set_option maxHeartbeats 8000000 in
theorem s_Bd_stepFails_0 (d : Nat) (a0 a1 a2 : Int) (m : zM) (h : zH) (Q : zQ) (H :
  kd h a2 = 6 ∧ zcal WP d n_En_isSound [.inr (.inr a2)] m h (zk1 fun r1 m1 h1 =>
  (r1 = 0 ∨ r1 = 1) ∧ kd h1 a1 = 7 ∧ 0 < a1 ∧ ∀ m2, m2 = zwr m1 a1 17 r1 →
  kd h1 a1 = 7 ∧ ((m2 a1 17) ≠ 0 →
    ((1 : Int) = 0 ∨ (1 : Int) = 1) ∧ kd h1 a2 = 6 ∧ 0 < a2 ∧ ∀ m3, m3 = zwr m2 a2 4 1 →
    kd h1 a2 = 6 ∧ ((m3 a2 14) = 0 →
      q_Bd_stepFails_88 d a1 a2 (m3 a2 14) m3 h1 Q) ∧
    (¬ ((m3 a2 14) = 0) →
      kd h1 (m3 a2 14) = 7 ∧ ((m3 (m3 a2 14) 16) ≠ 0 →
        kd h1 a0 = 2 ∧ kd h1 (m3 a2 14) = 7 ∧ kd h1 (m3 a0 6) = 121 ∧ (0 : Int) ≤ (m3 (m3 a2 14) 3) ∧ (m3 (m3 a2 14) 3) < ln h1 (m3 a0 6) ∧ kd h1 (m3 (m3 a0 6) (m3 (m3 a2 14) 3)) = 11 ∧ kd h1 a2 = 6 ∧ 0 < a2 ∧ ∀ m4, m4 = zwr m3 a2 2 (m3 (m3 (m3 a0 6) (m3 (m3 a2 14) 3)) 0) →
        q_Bd_stepFails_88 d a1 a2 (m3 a2 14) m4 h1 Q) ∧
      (¬ ((m3 (m3 a2 14) 16) ≠ 0) →
        kd h1 (m3 a2 14) = 7 ∧ (2 : Int) ≠ 0 ∧ kd h1 a2 = 6 ∧ kd h1 (m3 a2 14) = 7 ∧ kd h1 a2 = 6 ∧ 0 < a2 ∧ ∀ m4, m4 = zwr m3 a2 6 (w32 ((m3 a2 6) - (w32 ((m3 (m3 a2 14) 11) - (zdiv (m3 (m3 a2 14) 11) 2))))) →
        kd h1 (m3 a2 14) = 7 ∧ 0 < (m3 a2 14) ∧ ∀ m5, m5 = zwr m4 (m3 a2 14) 11 (zdiv (m3 (m3 a2 14) 11) 2) →
        ((1 : Int) = 0 ∨ (1 : Int) = 1) ∧ kd h1 (m3 a2 14) = 7 ∧ 0 < (m3 a2 14) ∧ ∀ m6, m6 = zwr m5 (m3 a2 14) 16 1 →
        kd h1 a0 = 2 ∧ kd h1 (m3 a2 14) = 7 ∧ kd h1 (m6 a0 6) = 121 ∧ (0 : Int) ≤ (m6 (m3 a2 14) 3) ∧ (m6 (m3 a2 14) 3) < ln h1 (m6 a0 6) ∧ kd h1 (m6 (m6 a0 6) (m6 (m3 a2 14) 3)) = 11 ∧ kd h1 a2 = 6 ∧ 0 < a2 ∧ ∀ m7, m7 = zwr m6 a2 2 (m6 (m6 (m6 a0 6) (m6 (m3 a2 14) 3)) 0) →
        q_Bd_stepFails_88 d a1 a2 (m3 a2 14) m7 h1 Q))) ∧
  (¬ ((m2 a1 17) ≠ 0) →
    Q none m2 h1))) : q_Bd_stepFails_0 d a0 a1 a2 m h Q := zvc_ok zc_Bd_stepFails zm_Bd_stepFails 61 (fun _ => rfl) H
set_option maxRecDepth 100000 in
set_option maxHeartbeats 8000000 in
theorem s_Bd_stepFails_88 (d : Nat) (a1 a2 a3 : Int) (m : zM) (h : zH) (Q : zQ) (H :
  kd h a2 = 6 ∧ kd h a1 = 7 ∧ 0 < a1 ∧ ∀ m1, m1 = zwr m a1 5 (m a2 2) →
  (a3 = 0 →
    kd h a1 = 7 ∧ 0 < a1 ∧ ∀ m2, m2 = zwr m1 a1 4 ((-1)) →
    Q none m2 h) ∧
  (¬ (a3 = 0) →
    kd h a3 = 7 ∧ kd h a1 = 7 ∧ 0 < a1 ∧ ∀ m2, m2 = zwr m1 a1 4 (m1 a3 4) →
    Q none m2 h)) : q_Bd_stepFails_88 d a1 a2 a3 m h Q := zvc_ok zc_Bd_stepFails zm_Bd_stepFails 61 (fun _ => rfl) H
theorem e_Bd_stepFails (d : Nat) (a0 a1 a2 : Int) (m : zM) (h : zH) (Q : zQ) (H : q_Bd_stepFails_0 d a0 a1 a2 m h Q) : zcal WP (d + 1) n_Bd_stepFails [.inr (.inr a0), .inr (.inr a1), .inr (.inr a2)] m h Q := zcal_mk rfl H
def zm_Bd_isDue : Nat → Option (List Bool) := fun pc => none
abbrev q_Bd_isDue_0 (d : Nat) (a0 a1 a2 : Int) (m : zM) (h : zH) (Q : zQ) : Prop := WP d n_Bd_isDue 0 [some (.inr (.inr a0)), some (.inr (.inr a1)), some (.inl a2)] [] m h Q
set_option maxRecDepth 100000 in
set_option maxHeartbeats 8000000 in
theorem s_Bd_isDue_0 (d : Nat) (a0 a1 a2 : Int) (m : zM) (h : zH) (Q : zQ) (H :
  kd h a0 = 2 ∧ kd h (m a0 10) = 3 ∧ zcal WP d n_Bk_openAt [.inr (.inr (m a0 10)), .inl a2] m h (zk0 fun m1 h1 =>
  kd h1 a0 = 2 ∧ kd h1 (m1 a0 10) = 3 ∧ zcal WP d n_Bk_lookAt [.inr (.inr (m1 a0 10)), .inr (.inr a1), .inl a2, .inr (.inr 0)] m1 h1 (zk0 fun m2 h2 =>
  kd h2 a0 = 2 ∧ kd h2 (m2 a0 10) = 3 ∧ zcal WP d n_Bk_firstHolding [.inr (.inr (m2 a0 10)), .inl 1] m2 h2 (zk1 fun r3 m3 h3 =>
  (r3 = ((-1)) →
    ((0 : Int) = 0 ∨ (0 : Int) = 1) ∧ Q (some (.inl (0 : Int))) m3 h3) ∧
  (¬ (r3 = ((-1))) →
    ((1 : Int) = 0 ∨ (1 : Int) = 1) ∧ Q (some (.inl (1 : Int))) m3 h3))))) : q_Bd_isDue_0 d a0 a1 a2 m h Q := zvc_ok zc_Bd_isDue zm_Bd_isDue 21 (fun _ => rfl) H
theorem e_Bd_isDue (d : Nat) (a0 a1 a2 : Int) (m : zM) (h : zH) (Q : zQ) (H : q_Bd_isDue_0 d a0 a1 a2 m h Q) : zcal WP (d + 1) n_Bd_isDue [.inr (.inr a0), .inr (.inr a1), .inl a2] m h Q := zcal_mk rfl H
def zm_Bd_countBeyond : Nat → Option (List Bool) := fun pc => bif Nat.beq pc 6 then some [true, true, true, true, true, true, false] else (none)
abbrev q_Bd_countBeyond_0 (d : Nat) (a0 a1 a2 a3 : Int) (m : zM) (h : zH) (Q : zQ) : Prop := WP d n_Bd_countBeyond 0 [some (.inr (.inr a0)), some (.inl a1), some (.inl a2), some (.inl a3), none, none, none] [] m h Q
abbrev q_Bd_countBeyond_6 (d : Nat) (a0 a1 a2 a3 a4 a5 : Int) (m : zM) (h : zH) (Q : zQ) : Prop := WP d n_Bd_countBeyond 6 [some (.inr (.inr a0)), some (.inl a1), some (.inl a2), some (.inl a3), some (.inl a4), some (.inl a5), none] [] m h Q
set_option maxRecDepth 100000 in
set_option maxHeartbeats 8000000 in
theorem s_Bd_countBeyond_0 (d : Nat) (a0 a1 a2 a3 : Int) (m : zM) (h : zH) (Q : zQ) (H :
  q_Bd_countBeyond_6 d a0 a1 a2 a3 0 0 m h Q) : q_Bd_countBeyond_0 d a0 a1 a2 a3 m h Q := zvc_ok zc_Bd_countBeyond zm_Bd_countBeyond 34 (fun _ => rfl) H
set_option maxRecDepth 100000 in
set_option maxHeartbeats 8000000 in
theorem s_Bd_countBeyond_6 (d : Nat) (a0 a1 a2 a3 a4 a5 : Int) (m : zM) (h : zH) (Q : zQ) (H :
  (a3 ≤ a5 →
    Q (some (.inl a4)) m h) ∧
  (¬ (a3 ≤ a5) →
    kd h a0 = 2 ∧ kd h (m a0 8) = 117 ∧ (0 : Int) ≤ a5 ∧ a5 < ln h (m a0 8) ∧ kd h (m (m a0 8) a5) = 7 ∧ ((m (m (m a0 8) a5) 0) ≠ 4 →
      q_Bd_countBeyond_6 d a0 a1 a2 a3 a4 (w32 (a5 + 1)) m h Q) ∧
    (¬ ((m (m (m a0 8) a5) 0) ≠ 4) →
      kd h (m (m a0 8) a5) = 7 ∧ zcal WP d n_Es_within [.inl (m (m (m a0 8) a5) 2), .inl a1, .inl a2] m h (zk1 fun r1 m1 h1 =>
      (r1 = 0 →
        q_Bd_countBeyond_6 d a0 a1 a2 a3 a4 (w32 (a5 + 1)) m1 h1 Q) ∧
      (¬ (r1 = 0) →
        kd h1 (m (m a0 8) a5) = 7 ∧ ((m1 (m (m a0 8) a5) 9) ≠ 0 →
          q_Bd_countBeyond_6 d a0 a1 a2 a3 a4 (w32 (a5 + 1)) m1 h1 Q) ∧
        (¬ ((m1 (m (m a0 8) a5) 9) ≠ 0) →
          kd h1 (m (m a0 8) a5) = 7 ∧ ((m1 (m (m a0 8) a5) 15) = 0 →
            q_Bd_countBeyond_6 d a0 a1 a2 a3 a4 (w32 (a5 + 1)) m1 h1 Q) ∧
          (¬ ((m1 (m (m a0 8) a5) 15) = 0) →
            q_Bd_countBeyond_6 d a0 a1 a2 a3 (w32 (a4 + 1)) (w32 (a5 + 1)) m1 h1 Q))))))) : q_Bd_countBeyond_6 d a0 a1 a2 a3 a4 a5 m h Q := zvc_ok zc_Bd_countBeyond zm_Bd_countBeyond 34 (fun _ => rfl) H
theorem e_Bd_countBeyond (d : Nat) (a0 a1 a2 a3 : Int) (m : zM) (h : zH) (Q : zQ) (H : q_Bd_countBeyond_0 d a0 a1 a2 a3 m h Q) : zcal WP (d + 1) n_Bd_countBeyond [.inr (.inr a0), .inl a1, .inl a2, .inl a3] m h Q := zcal_mk rfl H
def zm_Bd_helper : Nat → Option (List Bool) := fun pc => bif Nat.beq pc 10 then some [true, true, true, true, true, true, false, false] else (none)
abbrev q_Bd_helper_0 (d : Nat) (a0 a1 a2 : Int) (m : zM) (h : zH) (Q : zQ) : Prop := WP d n_Bd_helper 0 [some (.inr (.inr a0)), some (.inr (.inr a1)), some (.inl a2), none, none, none, none, none] [] m h Q
abbrev q_Bd_helper_10 (d : Nat) (a0 a1 a2 a3 a4 a5 : Int) (m : zM) (h : zH) (Q : zQ) : Prop := WP d n_Bd_helper 10 [some (.inr (.inr a0)), some (.inr (.inr a1)), some (.inl a2), some (.inl a3), some (.inl a4), some (.inl a5), none, none] [] m h Q
set_option maxRecDepth 100000 in
set_option maxHeartbeats 8000000 in
theorem s_Bd_helper_0 (d : Nat) (a0 a1 a2 : Int) (m : zM) (h : zH) (Q : zQ) (H :
  q_Bd_helper_10 d a0 a1 a2 ((-2)) 10 0 m h Q) : q_Bd_helper_0 d a0 a1 a2 m h Q := zvc_ok zc_Bd_helper zm_Bd_helper 55 (fun _ => rfl) H
set_option maxRecDepth 100000 in
set_option maxHeartbeats 8000000 in
theorem s_Bd_helper_10 (d : Nat) (a0 a1 a2 a3 a4 a5 : Int) (m : zM) (h : zH) (Q : zQ) (H :
  (a2 ≤ a5 →
    Q (some (.inl a3)) m h) ∧
  (¬ (a2 ≤ a5) →
    kd h a0 = 2 ∧ kd h (m a0 8) = 117 ∧ (0 : Int) ≤ a5 ∧ a5 < ln h (m a0 8) ∧ kd h a0 = 2 ∧ zcal WP d n_Bd_isSpareAt [.inr (.inr a0), .inr (.inr (m (m a0 8) a5)), .inr (.inr a1)] m h (zk1 fun r1 m1 h1 =>
    (r1 ≠ 0 →
      kd h1 a0 = 2 ∧ kd h1 a0 = 2 ∧ kd h1 (m (m a0 8) a5) = 7 ∧ kd h1 (m1 a0 6) = 121 ∧ (0 : Int) ≤ (m1 (m (m a0 8) a5) 3) ∧ (m1 (m (m a0 8) a5) 3) < ln h1 (m1 a0 6) ∧ kd h1 (m1 (m1 a0 6) (m1 (m (m a0 8) a5) 3)) = 11 ∧ kd h1 a1 = 7 ∧ kd h1 (m1 a0 1) = 101 ∧ (0 : Int) ≤ (w32 ((w32 ((m1 (m1 (m1 a0 6) (m1 (m (m a0 8) a5) 3)) 0) * 5)) + (m1 a1 5))) ∧ (w32 ((w32 ((m1 (m1 (m1 a0 6) (m1 (m (m a0 8) a5) 3)) 0) * 5)) + (m1 a1 5))) < ln h1 (m1 a0 1) ∧ ((m1 (m1 a0 1) (w32 ((w32 ((m1 (m1 (m1 a0 6) (m1 (m (m a0 8) a5) 3)) 0) * 5)) + (m1 a1 5)))) < a4 →
        kd h1 (m (m a0 8) a5) = 7 ∧ q_Bd_helper_10 d a0 a1 a2 (m1 (m (m a0 8) a5) 1) (m1 (m1 a0 1) (w32 ((w32 ((m1 (m1 (m1 a0 6) (m1 (m (m a0 8) a5) 3)) 0) * 5)) + (m1 a1 5)))) (w32 (a5 + 1)) m1 h1 Q) ∧
      (¬ ((m1 (m1 a0 1) (w32 ((w32 ((m1 (m1 (m1 a0 6) (m1 (m (m a0 8) a5) 3)) 0) * 5)) + (m1 a1 5)))) < a4) →
        ((m1 (m1 a0 1) (w32 ((w32 ((m1 (m1 (m1 a0 6) (m1 (m (m a0 8) a5) 3)) 0) * 5)) + (m1 a1 5)))) ≠ a4 →
          q_Bd_helper_10 d a0 a1 a2 a3 a4 (w32 (a5 + 1)) m1 h1 Q) ∧
        (¬ ((m1 (m1 a0 1) (w32 ((w32 ((m1 (m1 (m1 a0 6) (m1 (m (m a0 8) a5) 3)) 0) * 5)) + (m1 a1 5)))) ≠ a4) →
          kd h1 (m (m a0 8) a5) = 7 ∧ (a3 ≤ (m1 (m (m a0 8) a5) 1) →
            q_Bd_helper_10 d a0 a1 a2 a3 a4 (w32 (a5 + 1)) m1 h1 Q) ∧
          (¬ (a3 ≤ (m1 (m (m a0 8) a5) 1)) →
            kd h1 (m (m a0 8) a5) = 7 ∧ q_Bd_helper_10 d a0 a1 a2 (m1 (m (m a0 8) a5) 1) (m1 (m1 a0 1) (w32 ((w32 ((m1 (m1 (m1 a0 6) (m1 (m (m a0 8) a5) 3)) 0) * 5)) + (m1 a1 5)))) (w32 (a5 + 1)) m1 h1 Q)))) ∧
    (¬ (r1 ≠ 0) →
      q_Bd_helper_10 d a0 a1 a2 a3 a4 (w32 (a5 + 1)) m1 h1 Q)))) : q_Bd_helper_10 d a0 a1 a2 a3 a4 a5 m h Q := zvc_ok zc_Bd_helper zm_Bd_helper 55 (fun _ => rfl) H
theorem e_Bd_helper (d : Nat) (a0 a1 a2 : Int) (m : zM) (h : zH) (Q : zQ) (H : q_Bd_helper_0 d a0 a1 a2 m h Q) : zcal WP (d + 1) n_Bd_helper [.inr (.inr a0), .inr (.inr a1), .inl a2] m h Q := zcal_mk rfl H
def zm_Bd_isSpareAt : Nat → Option (List Bool) := fun pc => none
abbrev q_Bd_isSpareAt_0 (d : Nat) (a0 a1 a2 : Int) (m : zM) (h : zH) (Q : zQ) : Prop := WP d n_Bd_isSpareAt 0 [some (.inr (.inr a0)), some (.inr (.inr a1)), some (.inr (.inr a2)), none] [] m h Q
set_option maxRecDepth 100000 in
set_option maxHeartbeats 8000000 in
theorem s_Bd_isSpareAt_0 (d : Nat) (a0 a1 a2 : Int) (m : zM) (h : zH) (Q : zQ) (H :
  kd h a1 = 7 ∧ ((m a1 0) ≠ 4 →
    ((0 : Int) = 0 ∨ (0 : Int) = 1) ∧ Q (some (.inl (0 : Int))) m h) ∧
  (¬ ((m a1 0) ≠ 4) →
    kd h a1 = 7 ∧ kd h a2 = 7 ∧ ((m a1 2) ≠ (m a2 2) →
      ((0 : Int) = 0 ∨ (0 : Int) = 1) ∧ Q (some (.inl (0 : Int))) m h) ∧
    (¬ ((m a1 2) ≠ (m a2 2)) →
      kd h a1 = 7 ∧ ((m a1 9) ≠ 0 →
        ((0 : Int) = 0 ∨ (0 : Int) = 1) ∧ Q (some (.inl (0 : Int))) m h) ∧
      (¬ ((m a1 9) ≠ 0) →
        kd h a1 = 7 ∧ kd h a2 = 7 ∧ ((m a1 1) ≠ (m a2 1) →
          kd h a0 = 2 ∧ kd h a1 = 7 ∧ kd h (m a0 6) = 121 ∧ (0 : Int) ≤ (m a1 3) ∧ (m a1 3) < ln h (m a0 6) ∧ kd h (m (m a0 6) (m a1 3)) = 11 ∧ ((m (m (m a0 6) (m a1 3)) 7) ≠ 1 →
            ((0 : Int) = 0 ∨ (0 : Int) = 1) ∧ Q (some (.inl (0 : Int))) m h) ∧
          (¬ ((m (m (m a0 6) (m a1 3)) 7) ≠ 1) →
            kd h a2 = 7 ∧ kd h (m (m a0 6) (m a1 3)) = 11 ∧ kd h (m (m a0 6) (m a1 3)) = 11 ∧ zcal WP d n_Es_within [.inl (m a2 6), .inl (m (m (m a0 6) (m a1 3)) 1), .inl (w32 ((m (m (m a0 6) (m a1 3)) 2) - 1))] m h (zk1 fun r1 m1 h1 =>
            (r1 = 0 →
              ((0 : Int) = 0 ∨ (0 : Int) = 1) ∧ Q (some (.inl (0 : Int))) m1 h1) ∧
            (¬ (r1 = 0) →
              ((1 : Int) = 0 ∨ (1 : Int) = 1) ∧ Q (some (.inl (1 : Int))) m1 h1)))) ∧
        (¬ ((m a1 1) ≠ (m a2 1)) →
          ((0 : Int) = 0 ∨ (0 : Int) = 1) ∧ Q (some (.inl (0 : Int))) m h))))) : q_Bd_isSpareAt_0 d a0 a1 a2 m h Q := zvc_ok zc_Bd_isSpareAt zm_Bd_isSpareAt 44 (fun _ => rfl) H
theorem e_Bd_isSpareAt (d : Nat) (a0 a1 a2 : Int) (m : zM) (h : zH) (Q : zQ) (H : q_Bd_isSpareAt_0 d a0 a1 a2 m h Q) : zcal WP (d + 1) n_Bd_isSpareAt [.inr (.inr a0), .inr (.inr a1), .inr (.inr a2)] m h Q := zcal_mk rfl H
def zm_Bd_coalLeft : Nat → Option (List Bool) := fun pc => bif Nat.beq pc 6 then some [true, true, true, true, true, true, false] else (bif Nat.beq pc 65 then some [true, true, true, true, true, true, true] else (none))
abbrev q_Bd_coalLeft_0 (d : Nat) (a0 a1 a2 a3 : Int) (m : zM) (h : zH) (Q : zQ) : Prop := WP d n_Bd_coalLeft 0 [some (.inr (.inr a0)), some (.inl a1), some (.inl a2), some (.inl a3), none, none, none] [] m h Q
abbrev q_Bd_coalLeft_6 (d : Nat) (a0 a1 a2 a3 a4 a5 : Int) (m : zM) (h : zH) (Q : zQ) : Prop := WP d n_Bd_coalLeft 6 [some (.inr (.inr a0)), some (.inl a1), some (.inl a2), some (.inl a3), some (.inl a4), some (.inl a5), none] [] m h Q
abbrev q_Bd_coalLeft_65 (d : Nat) (a0 a1 a2 a3 a4 a5 a6 : Int) (m : zM) (h : zH) (Q : zQ) : Prop := WP d n_Bd_coalLeft 65 [some (.inr (.inr a0)), some (.inl a1), some (.inl a2), some (.inl a3), some (.inl a4), some (.inl a5), some (.inr (.inr a6))] [] m h Q
set_option maxRecDepth 100000 in
set_option maxHeartbeats 8000000 in
theorem s_Bd_coalLeft_0 (d : Nat) (a0 a1 a2 a3 : Int) (m : zM) (h : zH) (Q : zQ) (H :
  q_Bd_coalLeft_6 d a0 a1 a2 a3 0 0 m h Q) : q_Bd_coalLeft_0 d a0 a1 a2 a3 m h Q := zvc_ok zc_Bd_coalLeft zm_Bd_coalLeft 56 (fun _ => rfl) H
set_option maxRecDepth 100000 in
set_option maxHeartbeats 8000000 in
theorem s_Bd_coalLeft_6 (d : Nat) (a0 a1 a2 a3 a4 a5 : Int) (m : zM) (h : zH) (Q : zQ) (H :
  (a3 ≤ a5 →
    Q (some (.inl a4)) m h) ∧
  (¬ (a3 ≤ a5) →
    kd h a0 = 2 ∧ kd h (m a0 8) = 117 ∧ (0 : Int) ≤ a5 ∧ a5 < ln h (m a0 8) ∧ kd h (m (m a0 8) a5) = 7 ∧ ((m (m (m a0 8) a5) 2) ≤ a2 →
      kd h (m (m a0 8) a5) = 7 ∧ ((m (m (m a0 8) a5) 0) ≠ 9 →
        q_Bd_coalLeft_65 d a0 a1 a2 a3 a4 a5 (m (m a0 8) a5) m h Q) ∧
      (¬ ((m (m (m a0 8) a5) 0) ≠ 9) →
        kd h (m (m a0 8) a5) = 7 ∧ ((m (m (m a0 8) a5) 5) ≠ a1 →
          q_Bd_coalLeft_65 d a0 a1 a2 a3 a4 a5 (m (m a0 8) a5) m h Q) ∧
        (¬ ((m (m (m a0 8) a5) 5) ≠ a1) →
          kd h (m (m a0 8) a5) = 7 ∧ q_Bd_coalLeft_6 d a0 a1 a2 a3 (w32 (a4 + (m (m (m a0 8) a5) 6))) (w32 (a5 + 1)) m h Q))) ∧
    (¬ ((m (m (m a0 8) a5) 2) ≤ a2) →
      q_Bd_coalLeft_6 d a0 a1 a2 a3 a4 (w32 (a5 + 1)) m h Q))) : q_Bd_coalLeft_6 d a0 a1 a2 a3 a4 a5 m h Q := zvc_ok zc_Bd_coalLeft zm_Bd_coalLeft 56 (fun _ => rfl) H
set_option maxRecDepth 100000 in
set_option maxHeartbeats 8000000 in
theorem s_Bd_coalLeft_65 (d : Nat) (a0 a1 a2 a3 a4 a5 a6 : Int) (m : zM) (h : zH) (Q : zQ) (H :
  kd h a6 = 7 ∧ ((m a6 0) ≠ 4 →
    q_Bd_coalLeft_6 d a0 a1 a2 a3 a4 (w32 (a5 + 1)) m h Q) ∧
  (¬ ((m a6 0) ≠ 4) →
    kd h a6 = 7 ∧ ((m a6 9) ≠ 0 →
      q_Bd_coalLeft_6 d a0 a1 a2 a3 a4 (w32 (a5 + 1)) m h Q) ∧
    (¬ ((m a6 9) ≠ 0) →
      kd h a0 = 2 ∧ kd h a6 = 7 ∧ kd h (m a0 6) = 121 ∧ (0 : Int) ≤ (m a6 3) ∧ (m a6 3) < ln h (m a0 6) ∧ kd h (m (m a0 6) (m a6 3)) = 11 ∧ ((m (m (m a0 6) (m a6 3)) 0) ≠ a1 →
        q_Bd_coalLeft_6 d a0 a1 a2 a3 a4 (w32 (a5 + 1)) m h Q) ∧
      (¬ ((m (m (m a0 6) (m a6 3)) 0) ≠ a1) →
        kd h a6 = 7 ∧ q_Bd_coalLeft_6 d a0 a1 a2 a3 (w32 (a4 - (m a6 13))) (w32 (a5 + 1)) m h Q)))) : q_Bd_coalLeft_65 d a0 a1 a2 a3 a4 a5 a6 m h Q := zvc_ok zc_Bd_coalLeft zm_Bd_coalLeft 56 (fun _ => rfl) H
theorem e_Bd_coalLeft (d : Nat) (a0 a1 a2 a3 : Int) (m : zM) (h : zH) (Q : zQ) (H : q_Bd_coalLeft_0 d a0 a1 a2 a3 m h Q) : zcal WP (d + 1) n_Bd_coalLeft [.inr (.inr a0), .inl a1, .inl a2, .inl a3] m h Q := zcal_mk rfl H
def zm_Bd_countKept : Nat → Option (List Bool) := fun pc => bif Nat.beq pc 6 then some [true, true, true, true, true, true, false] else (none)
abbrev q_Bd_countKept_0 (d : Nat) (a0 a1 a2 a3 : Int) (m : zM) (h : zH) (Q : zQ) : Prop := WP d n_Bd_countKept 0 [some (.inr (.inr a0)), some (.inl a1), some (.inl a2), some (.inl a3), none, none, none] [] m h Q
abbrev q_Bd_countKept_6 (d : Nat) (a0 a1 a2 a3 a4 a5 : Int) (m : zM) (h : zH) (Q : zQ) : Prop := WP d n_Bd_countKept 6 [some (.inr (.inr a0)), some (.inl a1), some (.inl a2), some (.inl a3), some (.inl a4), some (.inl a5), none] [] m h Q
set_option maxRecDepth 100000 in
set_option maxHeartbeats 8000000 in
theorem s_Bd_countKept_0 (d : Nat) (a0 a1 a2 a3 : Int) (m : zM) (h : zH) (Q : zQ) (H :
  q_Bd_countKept_6 d a0 a1 a2 a3 0 0 m h Q) : q_Bd_countKept_0 d a0 a1 a2 a3 m h Q := zvc_ok zc_Bd_countKept zm_Bd_countKept 34 (fun _ => rfl) H
set_option maxRecDepth 100000 in
set_option maxHeartbeats 8000000 in
theorem s_Bd_countKept_6 (d : Nat) (a0 a1 a2 a3 a4 a5 : Int) (m : zM) (h : zH) (Q : zQ) (H :
  kd h a0 = 2 ∧ ((m a0 3) ≤ a5 →
    Q (some (.inl a4)) m h) ∧
  (¬ ((m a0 3) ≤ a5) →
    kd h a0 = 2 ∧ kd h (m a0 2) = 116 ∧ (0 : Int) ≤ a5 ∧ a5 < ln h (m a0 2) ∧ kd h (m (m a0 2) a5) = 6 ∧ ((m (m (m a0 2) a5) 3) ≠ a1 →
      q_Bd_countKept_6 d a0 a1 a2 a3 a4 (w32 (a5 + 1)) m h Q) ∧
    (¬ ((m (m (m a0 2) a5) 3) ≠ a1) →
      kd h (m (m a0 2) a5) = 6 ∧ ((m (m (m a0 2) a5) 1) ≠ a2 →
        q_Bd_countKept_6 d a0 a1 a2 a3 a4 (w32 (a5 + 1)) m h Q) ∧
      (¬ ((m (m (m a0 2) a5) 1) ≠ a2) →
        (a3 = ((-1)) →
          q_Bd_countKept_6 d a0 a1 a2 a3 (w32 (a4 + 1)) (w32 (a5 + 1)) m h Q) ∧
        (¬ (a3 = ((-1))) →
          kd h (m (m a0 2) a5) = 6 ∧ ((m (m (m a0 2) a5) 0) ≠ a3 →
            q_Bd_countKept_6 d a0 a1 a2 a3 a4 (w32 (a5 + 1)) m h Q) ∧
          (¬ ((m (m (m a0 2) a5) 0) ≠ a3) →
            q_Bd_countKept_6 d a0 a1 a2 a3 (w32 (a4 + 1)) (w32 (a5 + 1)) m h Q)))))) : q_Bd_countKept_6 d a0 a1 a2 a3 a4 a5 m h Q := zvc_ok zc_Bd_countKept zm_Bd_countKept 34 (fun _ => rfl) H
theorem e_Bd_countKept (d : Nat) (a0 a1 a2 a3 : Int) (m : zM) (h : zH) (Q : zQ) (H : q_Bd_countKept_0 d a0 a1 a2 a3 m h Q) : zcal WP (d + 1) n_Bd_countKept [.inr (.inr a0), .inl a1, .inl a2, .inl a3] m h Q := zcal_mk rfl H
def zm_Bd_noteReasons : Nat → Option (List Bool) := fun pc => bif Nat.beq pc 2 then some [true, true, true] else (none)
abbrev q_Bd_noteReasons_0 (d : Nat) (a0 a1 : Int) (m : zM) (h : zH) (Q : zQ) : Prop := WP d n_Bd_noteReasons 0 [some (.inr (.inr a0)), some (.inl a1), none] [] m h Q
abbrev q_Bd_noteReasons_2 (d : Nat) (a0 a1 a2 : Int) (m : zM) (h : zH) (Q : zQ) : Prop := WP d n_Bd_noteReasons 2 [some (.inr (.inr a0)), some (.inl a1), some (.inl a2)] [] m h Q
set_option maxRecDepth 100000 in
set_option maxHeartbeats 8000000 in
theorem s_Bd_noteReasons_0 (d : Nat) (a0 a1 : Int) (m : zM) (h : zH) (Q : zQ) (H :
  q_Bd_noteReasons_2 d a0 a1 0 m h Q) : q_Bd_noteReasons_0 d a0 a1 m h Q := zvc_ok zc_Bd_noteReasons zm_Bd_noteReasons 18 (fun _ => rfl) H
set_option maxRecDepth 100000 in
set_option maxHeartbeats 8000000 in
theorem s_Bd_noteReasons_2 (d : Nat) (a0 a1 a2 : Int) (m : zM) (h : zH) (Q : zQ) (H :
  (a1 ≤ a2 →
    Q none m h) ∧
  (¬ (a1 ≤ a2) →
    kd h a0 = 2 ∧ kd h a0 = 2 ∧ kd h (m a0 8) = 117 ∧ (0 : Int) ≤ a2 ∧ a2 < ln h (m a0 8) ∧ kd h (m (m a0 8) a2) = 7 ∧ kd h (m a0 13) = 101 ∧ 0 < (m a0 13) ∧ (0 : Int) ≤ a2 ∧ a2 < ln h (m a0 13) ∧ ∀ m1, m1 = zwr m (m a0 13) a2 (m (m (m a0 8) a2) 9) →
    q_Bd_noteReasons_2 d a0 a1 (w32 (a2 + 1)) m1 h Q)) : q_Bd_noteReasons_2 d a0 a1 a2 m h Q := zvc_ok zc_Bd_noteReasons zm_Bd_noteReasons 18 (fun _ => rfl) H
theorem e_Bd_noteReasons (d : Nat) (a0 a1 : Int) (m : zM) (h : zH) (Q : zQ) (H : q_Bd_noteReasons_0 d a0 a1 m h Q) : zcal WP (d + 1) n_Bd_noteReasons [.inr (.inr a0), .inl a1] m h Q := zcal_mk rfl H
def zm_Bd_firstTurned : Nat → Option (List Bool) := fun pc => bif Nat.beq pc 2 then some [true, true, true] else (bif Nat.beq pc 34 then some [true, true, true] else (none))
abbrev q_Bd_firstTurned_0 (d : Nat) (a0 a1 : Int) (m : zM) (h : zH) (Q : zQ) : Prop := WP d n_Bd_firstTurned 0 [some (.inr (.inr a0)), some (.inl a1), none] [] m h Q
abbrev q_Bd_firstTurned_2 (d : Nat) (a0 a1 a2 : Int) (m : zM) (h : zH) (Q : zQ) : Prop := WP d n_Bd_firstTurned 2 [some (.inr (.inr a0)), some (.inl a1), some (.inl a2)] [] m h Q
abbrev q_Bd_firstTurned_34 (d : Nat) (a0 a1 a2 s0 : Int) (m : zM) (h : zH) (Q : zQ) : Prop := WP d n_Bd_firstTurned 34 [some (.inr (.inr a0)), some (.inl a1), some (.inl a2)] [.inl s0] m h Q
set_option maxRecDepth 100000 in
set_option maxHeartbeats 8000000 in
theorem s_Bd_firstTurned_0 (d : Nat) (a0 a1 : Int) (m : zM) (h : zH) (Q : zQ) (H :
  q_Bd_firstTurned_2 d a0 a1 0 m h Q) : q_Bd_firstTurned_0 d a0 a1 m h Q := zvc_ok zc_Bd_firstTurned zm_Bd_firstTurned 37 (fun _ => rfl) H
set_option maxRecDepth 100000 in
set_option maxHeartbeats 8000000 in
theorem s_Bd_firstTurned_2 (d : Nat) (a0 a1 a2 : Int) (m : zM) (h : zH) (Q : zQ) (H :
  (a1 ≤ a2 →
    Q (some (.inl ((-1)))) m h) ∧
  (¬ (a1 ≤ a2) →
    kd h a0 = 2 ∧ kd h (m a0 8) = 117 ∧ (0 : Int) ≤ a2 ∧ a2 < ln h (m a0 8) ∧ kd h (m (m a0 8) a2) = 7 ∧ ((m (m (m a0 8) a2) 0) ≠ 4 →
      q_Bd_firstTurned_2 d a0 a1 (w32 (a2 + 1)) m h Q) ∧
    (¬ ((m (m (m a0 8) a2) 0) ≠ 4) →
      kd h a0 = 2 ∧ kd h (m a0 13) = 101 ∧ (0 : Int) ≤ a2 ∧ a2 < ln h (m a0 13) ∧ ((m (m a0 13) a2) ≠ 0 →
        q_Bd_firstTurned_34 d a0 a1 a2 0 m h Q) ∧
      (¬ ((m (m a0 13) a2) ≠ 0) →
        q_Bd_firstTurned_34 d a0 a1 a2 1 m h Q)))) : q_Bd_firstTurned_2 d a0 a1 a2 m h Q := zvc_ok zc_Bd_firstTurned zm_Bd_firstTurned 37 (fun _ => rfl) H
set_option maxRecDepth 100000 in
set_option maxHeartbeats 8000000 in
theorem s_Bd_firstTurned_34 (d : Nat) (a0 a1 a2 s0 : Int) (m : zM) (h : zH) (Q : zQ) (H :
  kd h a0 = 2 ∧ kd h (m a0 8) = 117 ∧ (0 : Int) ≤ a2 ∧ a2 < ln h (m a0 8) ∧ kd h (m (m a0 8) a2) = 7 ∧ ((m (m (m a0 8) a2) 9) ≠ 0 →
    (s0 = 0 →
      q_Bd_firstTurned_2 d a0 a1 (w32 (a2 + 1)) m h Q) ∧
    (¬ (s0 = 0) →
      Q (some (.inl a2)) m h)) ∧
  (¬ ((m (m (m a0 8) a2) 9) ≠ 0) →
    (s0 = 1 →
      q_Bd_firstTurned_2 d a0 a1 (w32 (a2 + 1)) m h Q) ∧
    (¬ (s0 = 1) →
      Q (some (.inl a2)) m h))) : q_Bd_firstTurned_34 d a0 a1 a2 s0 m h Q := zvc_ok zc_Bd_firstTurned zm_Bd_firstTurned 37 (fun _ => rfl) H
theorem e_Bd_firstTurned (d : Nat) (a0 a1 : Int) (m : zM) (h : zH) (Q : zQ) (H : q_Bd_firstTurned_0 d a0 a1 m h Q) : zcal WP (d + 1) n_Bd_firstTurned [.inr (.inr a0), .inl a1] m h Q := zcal_mk rfl H
def zm_Bk_init : Nat → Option (List Bool) := fun pc => none
abbrev q_Bk_init_0 (d : Nat) (a0 : Int) (m : zM) (h : zH) (Q : zQ) : Prop := WP d n_Bk_init 0 [some (.inr (.inr a0))] [] m h Q
set_option maxRecDepth 100000 in
set_option maxHeartbeats 8000000 in
theorem s_Bk_init_0 (d : Nat) (a0 : Int) (m : zM) (h : zH) (Q : zQ) (H :
  0 < a0 ∧ (0 : Int) ≤ 144 ∧ 144 ≤ (100000 : Int) ∧ ∀ m1 h1, m1 = znm m h → h1 = znh h 101 144 144 →
  kd h1 a0 = 3 ∧ 0 < a0 ∧ ∀ m2, m2 = zwr m1 a0 0 (nx h) →
  (0 : Int) ≤ 144 ∧ 144 ≤ (100000 : Int) ∧ ∀ m3 h3, m3 = znm m2 h1 → h3 = znh h1 101 144 144 →
  kd h3 a0 = 3 ∧ 0 < a0 ∧ ∀ m4, m4 = zwr m3 a0 1 (nx h1) →
  (0 : Int) ≤ 6 ∧ 6 ≤ (100000 : Int) ∧ ∀ m5 h5, m5 = znm m4 h3 → h5 = znh h3 120 6 6 →
  kd h5 a0 = 3 ∧ 0 < a0 ∧ ∀ m6, m6 = zwr m5 a0 4 (nx h3) →
  (0 : Int) ≤ 6 ∧ 6 ≤ (100000 : Int) ∧ ∀ m7 h7, m7 = znm m6 h5 → h7 = znh h5 101 6 6 →
  kd h7 a0 = 3 ∧ 0 < a0 ∧ ∀ m8, m8 = zwr m7 a0 5 (nx h5) →
  (0 : Int) ≤ 12 ∧ 12 ≤ (100000 : Int) ∧ ∀ m9 h9, m9 = znm m8 h7 → h9 = znh h7 101 12 12 →
  kd h9 a0 = 3 ∧ 0 < a0 ∧ ∀ m10, m10 = zwr m9 a0 7 (nx h7) →
  (0 : Int) ≤ 64 ∧ 64 ≤ (100000 : Int) ∧ ∀ m11 h11, m11 = znm m10 h9 → h11 = znh h9 101 64 64 →
  kd h11 a0 = 3 ∧ 0 < a0 ∧ ∀ m12, m12 = zwr m11 a0 8 (nx h9) →
  Q none m12 h11) : q_Bk_init_0 d a0 m h Q := zvc_ok zc_Bk_init zm_Bk_init 28 (fun _ => rfl) H
theorem e_Bk_init (d : Nat) (a0 : Int) (m : zM) (h : zH) (Q : zQ) (H : q_Bk_init_0 d a0 m h Q) : zcal WP (d + 1) n_Bk_init [.inr (.inr a0)] m h Q := zcal_mk rfl H
def zm_Bk_add : Nat → Option (List Bool) := fun pc => bif Nat.beq pc 15 then some [true, true, true] else (bif Nat.beq pc 62 then some [true, true, true] else (none))
abbrev q_Bk_add_0 (d : Nat) (a0 a1 : Int) (m : zM) (h : zH) (Q : zQ) : Prop := WP d n_Bk_add 0 [some (.inr (.inr a0)), some (.inr (.inr a1)), none] [] m h Q
abbrev q_Bk_add_15 (d : Nat) (a0 a1 a2 : Int) (m : zM) (h : zH) (Q : zQ) : Prop := WP d n_Bk_add 15 [some (.inr (.inr a0)), some (.inr (.inr a1)), some (.inl a2)] [] m h Q
abbrev q_Bk_add_62 (d : Nat) (a0 a1 a2 : Int) (m : zM) (h : zH) (Q : zQ) : Prop := WP d n_Bk_add 62 [some (.inr (.inr a0)), some (.inr (.inr a1)), some (.inl a2)] [] m h Q
set_option maxRecDepth 100000 in
set_option maxHeartbeats 8000000 in
theorem s_Bk_add_0 (d : Nat) (a0 a1 : Int) (m : zM) (h : zH) (Q : zQ) (H :
  kd h a0 = 3 ∧ ((m a0 3) < 6 →
    kd h a0 = 3 ∧ q_Bk_add_15 d a0 a1 (m a0 3) m h Q) ∧
  (¬ ((m a0 3) < 6) →
    Q none m h)) : q_Bk_add_0 d a0 a1 m h Q := zvc_ok zc_Bk_add zm_Bk_add 58 (fun _ => rfl) H
set_option maxRecDepth 100000 in
set_option maxHeartbeats 8000000 in
theorem s_Bk_add_15 (d : Nat) (a0 a1 a2 : Int) (m : zM) (h : zH) (Q : zQ) (H :
  (a2 ≤ 0 →
    q_Bk_add_62 d a0 a1 a2 m h Q) ∧
  (¬ (a2 ≤ 0) →
    kd h a0 = 3 ∧ kd h a0 = 3 ∧ kd h (m a0 5) = 101 ∧ (0 : Int) ≤ (w32 (a2 - 1)) ∧ (w32 (a2 - 1)) < ln h (m a0 5) ∧ kd h (m a0 4) = 120 ∧ (0 : Int) ≤ (m (m a0 5) (w32 (a2 - 1))) ∧ (m (m a0 5) (w32 (a2 - 1))) < ln h (m a0 4) ∧ kd h (m (m a0 4) (m (m a0 5) (w32 (a2 - 1)))) = 10 ∧ kd h a1 = 10 ∧ ((m (m (m a0 4) (m (m a0 5) (w32 (a2 - 1)))) 8) ≤ (m a1 8) →
      q_Bk_add_62 d a0 a1 a2 m h Q) ∧
    (¬ ((m (m (m a0 4) (m (m a0 5) (w32 (a2 - 1)))) 8) ≤ (m a1 8)) →
      kd h a0 = 3 ∧ kd h a0 = 3 ∧ kd h (m a0 5) = 101 ∧ (0 : Int) ≤ (w32 (a2 - 1)) ∧ (w32 (a2 - 1)) < ln h (m a0 5) ∧ kd h (m a0 5) = 101 ∧ 0 < (m a0 5) ∧ (0 : Int) ≤ a2 ∧ a2 < ln h (m a0 5) ∧ ∀ m1, m1 = zwr m (m a0 5) a2 (m (m a0 5) (w32 (a2 - 1))) →
      q_Bk_add_15 d a0 a1 (w32 (a2 + (-1))) m1 h Q))) : q_Bk_add_15 d a0 a1 a2 m h Q := zvc_ok zc_Bk_add zm_Bk_add 58 (fun _ => rfl) H
set_option maxRecDepth 100000 in
set_option maxHeartbeats 8000000 in
theorem s_Bk_add_62 (d : Nat) (a0 a1 a2 : Int) (m : zM) (h : zH) (Q : zQ) (H :
  kd h a0 = 3 ∧ kd h a0 = 3 ∧ kd h (m a0 5) = 101 ∧ 0 < (m a0 5) ∧ (0 : Int) ≤ a2 ∧ a2 < ln h (m a0 5) ∧ ∀ m1, m1 = zwr m (m a0 5) a2 (m a0 3) →
  kd h a0 = 3 ∧ kd h a0 = 3 ∧ kd h (m1 a0 4) = 120 ∧ 0 < (m1 a0 4) ∧ kd h a1 = 10 ∧ (0 : Int) ≤ (m1 a0 3) ∧ (m1 a0 3) < ln h (m1 a0 4) ∧ ∀ m2, m2 = zwr m1 (m1 a0 4) (m1 a0 3) a1 →
  kd h a0 = 3 ∧ kd h a0 = 3 ∧ 0 < a0 ∧ ∀ m3, m3 = zwr m2 a0 3 (w32 ((m2 a0 3) + 1)) →
  kd h a0 = 3 ∧ 0 < a0 ∧ ∀ m4, m4 = zwr m3 a0 6 ((-1)) →
  Q none m4 h) : q_Bk_add_62 d a0 a1 a2 m h Q := zvc_ok zc_Bk_add zm_Bk_add 58 (fun _ => rfl) H
theorem e_Bk_add (d : Nat) (a0 a1 : Int) (m : zM) (h : zH) (Q : zQ) (H : q_Bk_add_0 d a0 a1 m h Q) : zcal WP (d + 1) n_Bk_add [.inr (.inr a0), .inr (.inr a1)] m h Q := zcal_mk rfl H
def zm_Bk_openAt : Nat → Option (List Bool) := fun pc => bif Nat.beq pc 2 then some [true, true, true, false] else (bif Nat.beq pc 34 then some [true, false, true, false] else (bif Nat.beq pc 50 then some [true, false, true, true] else (none)))
abbrev q_Bk_openAt_0 (d : Nat) (a0 a1 : Int) (m : zM) (h : zH) (Q : zQ) : Prop := WP d n_Bk_openAt 0 [some (.inr (.inr a0)), some (.inl a1), none, none] [] m h Q
abbrev q_Bk_openAt_2 (d : Nat) (a0 a1 a2 : Int) (m : zM) (h : zH) (Q : zQ) : Prop := WP d n_Bk_openAt 2 [some (.inr (.inr a0)), some (.inl a1), some (.inl a2), none] [] m h Q
abbrev q_Bk_openAt_34 (d : Nat) (a0 a2 : Int) (m : zM) (h : zH) (Q : zQ) : Prop := WP d n_Bk_openAt 34 [some (.inr (.inr a0)), none, some (.inl a2), none] [] m h Q
abbrev q_Bk_openAt_50 (d : Nat) (a0 a2 a3 : Int) (m : zM) (h : zH) (Q : zQ) : Prop := WP d n_Bk_openAt 50 [some (.inr (.inr a0)), none, some (.inl a2), some (.inl a3)] [] m h Q
set_option maxRecDepth 100000 in
set_option maxHeartbeats 8000000 in
theorem s_Bk_openAt_0 (d : Nat) (a0 a1 : Int) (m : zM) (h : zH) (Q : zQ) (H :
  q_Bk_openAt_2 d a0 a1 0 m h Q) : q_Bk_openAt_0 d a0 a1 m h Q := zvc_ok zc_Bk_openAt zm_Bk_openAt 44 (fun _ => rfl) H
set_option maxRecDepth 100000 in
set_option maxHeartbeats 8000000 in
theorem s_Bk_openAt_2 (d : Nat) (a0 a1 a2 : Int) (m : zM) (h : zH) (Q : zQ) (H :
  kd h a0 = 3 ∧ ((m a0 3) ≤ a2 →
    q_Bk_openAt_34 d a0 a2 m h Q) ∧
  (¬ ((m a0 3) ≤ a2) →
    kd h a0 = 3 ∧ kd h a0 = 3 ∧ kd h (m a0 5) = 101 ∧ (0 : Int) ≤ a2 ∧ a2 < ln h (m a0 5) ∧ kd h (m a0 4) = 120 ∧ (0 : Int) ≤ (m (m a0 5) a2) ∧ (m (m a0 5) a2) < ln h (m a0 4) ∧ kd h (m (m a0 4) (m (m a0 5) a2)) = 10 ∧ (a1 < (m (m (m a0 4) (m (m a0 5) a2)) 8) →
      q_Bk_openAt_34 d a0 a2 m h Q) ∧
    (¬ (a1 < (m (m (m a0 4) (m (m a0 5) a2)) 8)) →
      q_Bk_openAt_2 d a0 a1 (w32 (a2 + 1)) m h Q))) : q_Bk_openAt_2 d a0 a1 a2 m h Q := zvc_ok zc_Bk_openAt zm_Bk_openAt 44 (fun _ => rfl) H
set_option maxRecDepth 100000 in
set_option maxHeartbeats 8000000 in
theorem s_Bk_openAt_34 (d : Nat) (a0 a2 : Int) (m : zM) (h : zH) (Q : zQ) (H :
  kd h a0 = 3 ∧ (a2 ≠ (m a0 6) →
    kd h a0 = 3 ∧ 0 < a0 ∧ ∀ m1, m1 = zwr m a0 2 0 →
    q_Bk_openAt_50 d a0 a2 0 m1 h Q) ∧
  (¬ (a2 ≠ (m a0 6)) →
    Q none m h)) : q_Bk_openAt_34 d a0 a2 m h Q := zvc_ok zc_Bk_openAt zm_Bk_openAt 44 (fun _ => rfl) H
set_option maxRecDepth 100000 in
set_option maxHeartbeats 8000000 in
theorem s_Bk_openAt_50 (d : Nat) (a0 a2 a3 : Int) (m : zM) (h : zH) (Q : zQ) (H :
  (a2 ≤ a3 →
    kd h a0 = 3 ∧ 0 < a0 ∧ ∀ m1, m1 = zwr m a0 6 a2 →
    Q none m1 h) ∧
  (¬ (a2 ≤ a3) →
    kd h a0 = 3 ∧ kd h (m a0 5) = 101 ∧ (0 : Int) ≤ a3 ∧ a3 < ln h (m a0 5) ∧ kd h a0 = 3 ∧ zcal WP d n_Bk_layText [.inr (.inr a0), .inl (m (m a0 5) a3)] m h (zk0 fun m1 h1 =>
    q_Bk_openAt_50 d a0 a2 (w32 (a3 + 1)) m1 h1 Q))) : q_Bk_openAt_50 d a0 a2 a3 m h Q := zvc_ok zc_Bk_openAt zm_Bk_openAt 44 (fun _ => rfl) H
theorem e_Bk_openAt (d : Nat) (a0 a1 : Int) (m : zM) (h : zH) (Q : zQ) (H : q_Bk_openAt_0 d a0 a1 m h Q) : zcal WP (d + 1) n_Bk_openAt [.inr (.inr a0), .inl a1] m h Q := zcal_mk rfl H
def zm_Bk_layText : Nat → Option (List Bool) := fun pc => bif Nat.beq pc 9 then some [true, true, true, true, false] else (none)
abbrev q_Bk_layText_0 (d : Nat) (a0 a1 : Int) (m : zM) (h : zH) (Q : zQ) : Prop := WP d n_Bk_layText 0 [some (.inr (.inr a0)), some (.inl a1), none, none, none] [] m h Q
abbrev q_Bk_layText_9 (d : Nat) (a0 a1 a2 a3 : Int) (m : zM) (h : zH) (Q : zQ) : Prop := WP d n_Bk_layText 9 [some (.inr (.inr a0)), some (.inl a1), some (.inr (.inr a2)), some (.inl a3), none] [] m h Q
set_option maxRecDepth 100000 in
set_option maxHeartbeats 8000000 in
theorem s_Bk_layText_0 (d : Nat) (a0 a1 : Int) (m : zM) (h : zH) (Q : zQ) (H :
  kd h a0 = 3 ∧ kd h (m a0 4) = 120 ∧ (0 : Int) ≤ a1 ∧ a1 < ln h (m a0 4) ∧ q_Bk_layText_9 d a0 a1 (m (m a0 4) a1) 0 m h Q) : q_Bk_layText_0 d a0 a1 m h Q := zvc_ok zc_Bk_layText zm_Bk_layText 55 (fun _ => rfl) H
set_option maxRecDepth 100000 in
set_option maxHeartbeats 8000000 in
theorem s_Bk_layText_9 (d : Nat) (a0 a1 a2 a3 : Int) (m : zM) (h : zH) (Q : zQ) (H :
  kd h a2 = 10 ∧ ((m a2 7) ≤ a3 →
    Q none m h) ∧
  (¬ ((m a2 7) ≤ a3) →
    kd h a2 = 10 ∧ kd h (m a2 1) = 104 ∧ (0 : Int) ≤ a3 ∧ a3 < ln h (m a2 1) ∧ kd h a0 = 3 ∧ zcal WP d n_Bk_find [.inr (.inr a0), .inr (.inl (m (m a2 1) a3))] m h (zk1 fun r1 m1 h1 =>
    kd h1 a2 = 10 ∧ kd h1 (m1 a2 2) = 101 ∧ (0 : Int) ≤ a3 ∧ a3 < ln h1 (m1 a2 2) ∧ ((m1 (m1 a2 2) a3) ≠ 5 →
      kd h1 a0 = 3 ∧ (100 < kd h1 (m1 a0 0) ∧ kd h1 (m1 a0 0) ≤ 123) ∧ ((ln h1 (m1 a0 0)) ≤ r1 →
        q_Bk_layText_9 d a0 a1 a2 (w32 (a3 + 1)) m1 h1 Q) ∧
      (¬ ((ln h1 (m1 a0 0)) ≤ r1) →
        kd h1 a0 = 3 ∧ kd h1 (m1 a0 0) = 101 ∧ 0 < (m1 a0 0) ∧ (0 : Int) ≤ r1 ∧ r1 < ln h1 (m1 a0 0) ∧ ∀ m2, m2 = zwr m1 (m1 a0 0) r1 a1 →
        kd h1 a0 = 3 ∧ kd h1 (m2 a0 1) = 101 ∧ 0 < (m2 a0 1) ∧ (0 : Int) ≤ r1 ∧ r1 < ln h1 (m2 a0 1) ∧ ∀ m3, m3 = zwr m2 (m2 a0 1) r1 a3 →
        kd h1 a0 = 3 ∧ kd h1 a0 = 3 ∧ 0 < a0 ∧ ∀ m4, m4 = zwr m3 a0 2 (max (m3 a0 2) (w32 (r1 + 1))) →
        q_Bk_layText_9 d a0 a1 a2 (w32 (a3 + 1)) m4 h1 Q)) ∧
    (¬ ((m1 (m1 a2 2) a3) ≠ 5) →
      kd h1 a0 = 3 ∧ zcal WP d n_Bk_strikeAt [.inr (.inr a0), .inl r1] m1 h1 (zk0 fun m2 h2 =>
      q_Bk_layText_9 d a0 a1 a2 (w32 (a3 + 1)) m2 h2 Q))))) : q_Bk_layText_9 d a0 a1 a2 a3 m h Q := zvc_ok zc_Bk_layText zm_Bk_layText 55 (fun _ => rfl) H
theorem e_Bk_layText (d : Nat) (a0 a1 : Int) (m : zM) (h : zH) (Q : zQ) (H : q_Bk_layText_0 d a0 a1 m h Q) : zcal WP (d + 1) n_Bk_layText [.inr (.inr a0), .inl a1] m h Q := zcal_mk rfl H
def zm_Bk_find : Nat → Option (List Bool) := fun pc => bif Nat.beq pc 2 then some [true, true, false, true] else (none)
abbrev q_Bk_find_0 (d : Nat) (a0 a1 : Int) (m : zM) (h : zH) (Q : zQ) : Prop := WP d n_Bk_find 0 [some (.inr (.inr a0)), some (.inr (.inl a1)), none, none] [] m h Q
abbrev q_Bk_find_2 (d : Nat) (a0 a1 a3 : Int) (m : zM) (h : zH) (Q : zQ) : Prop := WP d n_Bk_find 2 [some (.inr (.inr a0)), some (.inr (.inl a1)), none, some (.inl a3)] [] m h Q
set_option maxRecDepth 100000 in
set_option maxHeartbeats 8000000 in
theorem s_Bk_find_0 (d : Nat) (a0 a1 : Int) (m : zM) (h : zH) (Q : zQ) (H :
  q_Bk_find_2 d a0 a1 0 m h Q) : q_Bk_find_0 d a0 a1 m h Q := zvc_ok zc_Bk_find zm_Bk_find 30 (fun _ => rfl) H
set_option maxRecDepth 100000 in
set_option maxHeartbeats 8000000 in
theorem s_Bk_find_2 (d : Nat) (a0 a1 a3 : Int) (m : zM) (h : zH) (Q : zQ) (H :
  kd h a0 = 3 ∧ ((m a0 2) ≤ a3 →
    kd h a0 = 3 ∧ Q (some (.inl (m a0 2))) m h) ∧
  (¬ ((m a0 2) ≤ a3) →
    kd h a0 = 3 ∧ kd h a0 = 3 ∧ kd h (m a0 0) = 101 ∧ (0 : Int) ≤ a3 ∧ a3 < ln h (m a0 0) ∧ kd h (m a0 4) = 120 ∧ (0 : Int) ≤ (m (m a0 0) a3) ∧ (m (m a0 0) a3) < ln h (m a0 4) ∧ kd h (m (m a0 4) (m (m a0 0) a3)) = 10 ∧ kd h a0 = 3 ∧ kd h (m a0 1) = 101 ∧ (0 : Int) ≤ a3 ∧ a3 < ln h (m a0 1) ∧ kd h (m (m (m a0 4) (m (m a0 0) a3)) 1) = 104 ∧ (0 : Int) ≤ (m (m a0 1) a3) ∧ (m (m a0 1) a3) < ln h (m (m (m a0 4) (m (m a0 0) a3)) 1) ∧ ((zlcmp (m (m (m (m a0 4) (m (m a0 0) a3)) 1) (m (m a0 1) a3)) a1) ≠ 0 →
      q_Bk_find_2 d a0 a1 (w32 (a3 + 1)) m h Q) ∧
    (¬ ((zlcmp (m (m (m (m a0 4) (m (m a0 0) a3)) 1) (m (m a0 1) a3)) a1) ≠ 0) →
      Q (some (.inl a3)) m h))) : q_Bk_find_2 d a0 a1 a3 m h Q := zvc_ok zc_Bk_find zm_Bk_find 30 (fun _ => rfl) H
theorem e_Bk_find (d : Nat) (a0 a1 : Int) (m : zM) (h : zH) (Q : zQ) (H : q_Bk_find_0 d a0 a1 m h Q) : zcal WP (d + 1) n_Bk_find [.inr (.inr a0), .inr (.inl a1)] m h Q := zcal_mk rfl H
def zm_Bk_strikeAt : Nat → Option (List Bool) := fun pc => bif Nat.beq pc 21 then some [true, false, true] else (none)
abbrev q_Bk_strikeAt_0 (d : Nat) (a0 a1 : Int) (m : zM) (h : zH) (Q : zQ) : Prop := WP d n_Bk_strikeAt 0 [some (.inr (.inr a0)), some (.inl a1), none] [] m h Q
abbrev q_Bk_strikeAt_21 (d : Nat) (a0 a2 : Int) (m : zM) (h : zH) (Q : zQ) : Prop := WP d n_Bk_strikeAt 21 [some (.inr (.inr a0)), none, some (.inl a2)] [] m h Q
set_option maxRecDepth 100000 in
set_option maxHeartbeats 8000000 in
theorem s_Bk_strikeAt_0 (d : Nat) (a0 a1 : Int) (m : zM) (h : zH) (Q : zQ) (H :
  kd h a0 = 3 ∧ (a1 < (m a0 2) →
    kd h a0 = 3 ∧ kd h a0 = 3 ∧ 0 < a0 ∧ ∀ m1, m1 = zwr m a0 2 (w32 ((m a0 2) - 1)) →
    q_Bk_strikeAt_21 d a0 a1 m1 h Q) ∧
  (¬ (a1 < (m a0 2)) →
    Q none m h)) : q_Bk_strikeAt_0 d a0 a1 m h Q := zvc_ok zc_Bk_strikeAt zm_Bk_strikeAt 41 (fun _ => rfl) H
set_option maxRecDepth 100000 in
set_option maxHeartbeats 8000000 in
theorem s_Bk_strikeAt_21 (d : Nat) (a0 a2 : Int) (m : zM) (h : zH) (Q : zQ) (H :
  kd h a0 = 3 ∧ ((m a0 2) ≤ a2 →
    Q none m h) ∧
  (¬ ((m a0 2) ≤ a2) →
    kd h a0 = 3 ∧ kd h a0 = 3 ∧ kd h (m a0 0) = 101 ∧ (0 : Int) ≤ (w32 (a2 + 1)) ∧ (w32 (a2 + 1)) < ln h (m a0 0) ∧ kd h (m a0 0) = 101 ∧ 0 < (m a0 0) ∧ (0 : Int) ≤ a2 ∧ a2 < ln h (m a0 0) ∧ ∀ m1, m1 = zwr m (m a0 0) a2 (m (m a0 0) (w32 (a2 + 1))) →
    kd h a0 = 3 ∧ kd h a0 = 3 ∧ kd h (m1 a0 1) = 101 ∧ (0 : Int) ≤ (w32 (a2 + 1)) ∧ (w32 (a2 + 1)) < ln h (m1 a0 1) ∧ kd h (m1 a0 1) = 101 ∧ 0 < (m1 a0 1) ∧ (0 : Int) ≤ a2 ∧ a2 < ln h (m1 a0 1) ∧ ∀ m2, m2 = zwr m1 (m1 a0 1) a2 (m1 (m1 a0 1) (w32 (a2 + 1))) →
    q_Bk_strikeAt_21 d a0 (w32 (a2 + 1)) m2 h Q)) : q_Bk_strikeAt_21 d a0 a2 m h Q := zvc_ok zc_Bk_strikeAt zm_Bk_strikeAt 41 (fun _ => rfl) H
theorem e_Bk_strikeAt (d : Nat) (a0 a1 : Int) (m : zM) (h : zH) (Q : zQ) (H : q_Bk_strikeAt_0 d a0 a1 m h Q) : zcal WP (d + 1) n_Bk_strikeAt [.inr (.inr a0), .inl a1] m h Q := zcal_mk rfl H
def zm_Bk_sortOf : Nat → Option (List Bool) := fun pc => none
abbrev q_Bk_sortOf_0 (d : Nat) (a0 a1 : Int) (m : zM) (h : zH) (Q : zQ) : Prop := WP d n_Bk_sortOf 0 [some (.inr (.inr a0)), some (.inl a1)] [] m h Q
set_option maxRecDepth 100000 in
set_option maxHeartbeats 8000000 in
theorem s_Bk_sortOf_0 (d : Nat) (a0 a1 : Int) (m : zM) (h : zH) (Q : zQ) (H :
  kd h a0 = 3 ∧ kd h a0 = 3 ∧ kd h (m a0 0) = 101 ∧ (0 : Int) ≤ a1 ∧ a1 < ln h (m a0 0) ∧ kd h (m a0 4) = 120 ∧ (0 : Int) ≤ (m (m a0 0) a1) ∧ (m (m a0 0) a1) < ln h (m a0 4) ∧ kd h (m (m a0 4) (m (m a0 0) a1)) = 10 ∧ kd h a0 = 3 ∧ kd h (m a0 1) = 101 ∧ (0 : Int) ≤ a1 ∧ a1 < ln h (m a0 1) ∧ kd h (m (m (m a0 4) (m (m a0 0) a1)) 2) = 101 ∧ (0 : Int) ≤ (m (m a0 1) a1) ∧ (m (m a0 1) a1) < ln h (m (m (m a0 4) (m (m a0 0) a1)) 2) ∧ Q (some (.inl (m (m (m (m a0 4) (m (m a0 0) a1)) 2) (m (m a0 1) a1)))) m h) : q_Bk_sortOf_0 d a0 a1 m h Q := zvc_ok zc_Bk_sortOf zm_Bk_sortOf 15 (fun _ => rfl) H
theorem e_Bk_sortOf (d : Nat) (a0 a1 : Int) (m : zM) (h : zH) (Q : zQ) (H : q_Bk_sortOf_0 d a0 a1 m h Q) : zcal WP (d + 1) n_Bk_sortOf [.inr (.inr a0), .inl a1] m h Q := zcal_mk rfl H
def zm_Bk_lookAt : Nat → Option (List Bool) := fun pc => bif Nat.beq pc 83 then some [true, false, false, true] else (bif Nat.beq pc 102 then some [true, false, false, true] else (bif Nat.beq pc 121 then some [true, false, false, true] else (bif Nat.beq pc 145 then some [true, false, false, true] else (bif Nat.beq pc 164 then some [true, false, false, true] else (none)))))
abbrev q_Bk_lookAt_0 (d : Nat) (a0 a1 a2 a3 : Int) (m : zM) (h : zH) (Q : zQ) : Prop := WP d n_Bk_lookAt 0 [some (.inr (.inr a0)), some (.inr (.inr a1)), some (.inl a2), some (.inr (.inr a3))] [] m h Q
abbrev q_Bk_lookAt_83 (d : Nat) (a0 a3 s0 s1 s2 : Int) (m : zM) (h : zH) (Q : zQ) : Prop := WP d n_Bk_lookAt 83 [some (.inr (.inr a0)), none, none, some (.inr (.inr a3))] [.inl s0, .inl s1, .inr (.inr s2)] m h Q
abbrev q_Bk_lookAt_102 (d : Nat) (a0 a3 s0 s1 s2 : Int) (m : zM) (h : zH) (Q : zQ) : Prop := WP d n_Bk_lookAt 102 [some (.inr (.inr a0)), none, none, some (.inr (.inr a3))] [.inl s0, .inl s1, .inr (.inr s2)] m h Q
abbrev q_Bk_lookAt_121 (d : Nat) (a0 a3 s0 s1 s2 : Int) (m : zM) (h : zH) (Q : zQ) : Prop := WP d n_Bk_lookAt 121 [some (.inr (.inr a0)), none, none, some (.inr (.inr a3))] [.inl s0, .inl s1, .inr (.inr s2)] m h Q
abbrev q_Bk_lookAt_145 (d : Nat) (a0 a3 s0 s1 s2 : Int) (m : zM) (h : zH) (Q : zQ) : Prop := WP d n_Bk_lookAt 145 [some (.inr (.inr a0)), none, none, some (.inr (.inr a3))] [.inl s0, .inl s1, .inr (.inr s2)] m h Q
abbrev q_Bk_lookAt_164 (d : Nat) (a0 a3 s0 s1 s2 : Int) (m : zM) (h : zH) (Q : zQ) : Prop := WP d n_Bk_lookAt 164 [some (.inr (.inr a0)), none, none, some (.inr (.inr a3))] [.inl s0, .inl s1, .inr (.inr s2)] m h Q
set_option maxRecDepth 100000 in
set_option maxHeartbeats 8000000 in
theorem s_Bk_lookAt_0 (d : Nat) (a0 a1 a2 a3 : Int) (m : zM) (h : zH) (Q : zQ) (H :
  kd h a0 = 3 ∧ kd h (m a0 7) = 101 ∧ 0 < (m a0 7) ∧ (0 : Int) ≤ 0 ∧ 0 < ln h (m a0 7) ∧ ∀ m1, m1 = zwr m (m a0 7) 0 a2 →
  kd h a0 = 3 ∧ kd h a1 = 6 ∧ kd h (m1 a0 7) = 101 ∧ 0 < (m1 a0 7) ∧ (0 : Int) ≤ 1 ∧ 1 < ln h (m1 a0 7) ∧ ∀ m2, m2 = zwr m1 (m1 a0 7) 1 (m1 a1 0) →
  kd h a0 = 3 ∧ kd h a1 = 6 ∧ kd h (m2 a0 7) = 101 ∧ 0 < (m2 a0 7) ∧ (0 : Int) ≤ 2 ∧ 2 < ln h (m2 a0 7) ∧ ∀ m3, m3 = zwr m2 (m2 a0 7) 2 (m2 a1 6) →
  kd h a0 = 3 ∧ kd h a1 = 6 ∧ kd h (m3 a0 7) = 101 ∧ 0 < (m3 a0 7) ∧ (0 : Int) ≤ 3 ∧ 3 < ln h (m3 a0 7) ∧ ∀ m4, m4 = zwr m3 (m3 a0 7) 3 (w32 (a2 - (m3 a1 8))) →
  kd h a0 = 3 ∧ kd h a1 = 6 ∧ kd h (m4 a0 7) = 101 ∧ 0 < (m4 a0 7) ∧ (0 : Int) ≤ 4 ∧ 4 < ln h (m4 a0 7) ∧ ∀ m5, m5 = zwr m4 (m4 a0 7) 4 (w32 (a2 - (m4 a1 9))) →
  kd h a0 = 3 ∧ kd h a1 = 6 ∧ kd h (m5 a0 7) = 101 ∧ 0 < (m5 a0 7) ∧ (0 : Int) ≤ 5 ∧ 5 < ln h (m5 a0 7) ∧ ∀ m6, m6 = zwr m5 (m5 a0 7) 5 (m5 a1 7) →
  kd h a0 = 3 ∧ kd h a1 = 6 ∧ kd h a1 = 6 ∧ ((m6 a1 3) ≠ (m6 a1 1) →
    q_Bk_lookAt_83 d a0 a3 1 10 (m6 a0 7) m6 h Q) ∧
  (¬ ((m6 a1 3) ≠ (m6 a1 1)) →
    q_Bk_lookAt_83 d a0 a3 0 10 (m6 a0 7) m6 h Q)) : q_Bk_lookAt_0 d a0 a1 a2 a3 m h Q := zvc_ok zc_Bk_lookAt zm_Bk_lookAt 106 (fun _ => rfl) H
set_option maxRecDepth 100000 in
set_option maxHeartbeats 8000000 in
theorem s_Bk_lookAt_83 (d : Nat) (a0 a3 s0 s1 s2 : Int) (m : zM) (h : zH) (Q : zQ) (H :
  kd h s2 = 101 ∧ 0 < s2 ∧ (0 : Int) ≤ s1 ∧ s1 < ln h s2 ∧ ∀ m1, m1 = zwr m s2 s1 s0 →
  kd h a0 = 3 ∧ (a3 = 0 →
    q_Bk_lookAt_102 d a0 a3 0 6 (m1 a0 7) m1 h Q) ∧
  (¬ (a3 = 0) →
    kd h a3 = 11 ∧ q_Bk_lookAt_102 d a0 a3 (m1 a3 3) 6 (m1 a0 7) m1 h Q)) : q_Bk_lookAt_83 d a0 a3 s0 s1 s2 m h Q := zvc_ok zc_Bk_lookAt zm_Bk_lookAt 106 (fun _ => rfl) H
set_option maxRecDepth 100000 in
set_option maxHeartbeats 8000000 in
theorem s_Bk_lookAt_102 (d : Nat) (a0 a3 s0 s1 s2 : Int) (m : zM) (h : zH) (Q : zQ) (H :
  kd h s2 = 101 ∧ 0 < s2 ∧ (0 : Int) ≤ s1 ∧ s1 < ln h s2 ∧ ∀ m1, m1 = zwr m s2 s1 s0 →
  kd h a0 = 3 ∧ (a3 = 0 →
    q_Bk_lookAt_121 d a0 a3 0 7 (m1 a0 7) m1 h Q) ∧
  (¬ (a3 = 0) →
    kd h a3 = 11 ∧ q_Bk_lookAt_121 d a0 a3 (m1 a3 4) 7 (m1 a0 7) m1 h Q)) : q_Bk_lookAt_102 d a0 a3 s0 s1 s2 m h Q := zvc_ok zc_Bk_lookAt zm_Bk_lookAt 106 (fun _ => rfl) H
set_option maxRecDepth 100000 in
set_option maxHeartbeats 8000000 in
theorem s_Bk_lookAt_121 (d : Nat) (a0 a3 s0 s1 s2 : Int) (m : zM) (h : zH) (Q : zQ) (H :
  kd h s2 = 101 ∧ 0 < s2 ∧ (0 : Int) ≤ s1 ∧ s1 < ln h s2 ∧ ∀ m1, m1 = zwr m s2 s1 s0 →
  kd h a0 = 3 ∧ (a3 = 0 →
    q_Bk_lookAt_145 d a0 a3 0 8 (m1 a0 7) m1 h Q) ∧
  (¬ (a3 = 0) →
    kd h a3 = 11 ∧ kd h a3 = 11 ∧ q_Bk_lookAt_145 d a0 a3 (w32 ((m1 a3 2) - (m1 a3 1))) 8 (m1 a0 7) m1 h Q)) : q_Bk_lookAt_121 d a0 a3 s0 s1 s2 m h Q := zvc_ok zc_Bk_lookAt zm_Bk_lookAt 106 (fun _ => rfl) H
set_option maxRecDepth 100000 in
set_option maxHeartbeats 8000000 in
theorem s_Bk_lookAt_145 (d : Nat) (a0 a3 s0 s1 s2 : Int) (m : zM) (h : zH) (Q : zQ) (H :
  kd h s2 = 101 ∧ 0 < s2 ∧ (0 : Int) ≤ s1 ∧ s1 < ln h s2 ∧ ∀ m1, m1 = zwr m s2 s1 s0 →
  kd h a0 = 3 ∧ (a3 = 0 →
    q_Bk_lookAt_164 d a0 a3 0 9 (m1 a0 7) m1 h Q) ∧
  (¬ (a3 = 0) →
    kd h a3 = 11 ∧ q_Bk_lookAt_164 d a0 a3 (m1 a3 6) 9 (m1 a0 7) m1 h Q)) : q_Bk_lookAt_145 d a0 a3 s0 s1 s2 m h Q := zvc_ok zc_Bk_lookAt zm_Bk_lookAt 106 (fun _ => rfl) H
set_option maxRecDepth 100000 in
set_option maxHeartbeats 8000000 in
theorem s_Bk_lookAt_164 (d : Nat) (a0 a3 s0 s1 s2 : Int) (m : zM) (h : zH) (Q : zQ) (H :
  kd h s2 = 101 ∧ 0 < s2 ∧ (0 : Int) ≤ s1 ∧ s1 < ln h s2 ∧ ∀ m1, m1 = zwr m s2 s1 s0 →
  kd h a0 = 3 ∧ (a3 = 0 →
    kd h (m1 a0 7) = 101 ∧ 0 < (m1 a0 7) ∧ (0 : Int) ≤ 11 ∧ 11 < ln h (m1 a0 7) ∧ ∀ m2, m2 = zwr m1 (m1 a0 7) 11 0 →
    Q none m2 h) ∧
  (¬ (a3 = 0) →
    kd h a3 = 11 ∧ kd h (m1 a0 7) = 101 ∧ 0 < (m1 a0 7) ∧ (0 : Int) ≤ 11 ∧ 11 < ln h (m1 a0 7) ∧ ∀ m2, m2 = zwr m1 (m1 a0 7) 11 (m1 a3 7) →
    Q none m2 h)) : q_Bk_lookAt_164 d a0 a3 s0 s1 s2 m h Q := zvc_ok zc_Bk_lookAt zm_Bk_lookAt 106 (fun _ => rfl) H
theorem e_Bk_lookAt (d : Nat) (a0 a1 a2 a3 : Int) (m : zM) (h : zH) (Q : zQ) (H : q_Bk_lookAt_0 d a0 a1 a2 a3 m h Q) : zcal WP (d + 1) n_Bk_lookAt [.inr (.inr a0), .inr (.inr a1), .inl a2, .inr (.inr a3)] m h Q := zcal_mk rfl H
def zm_Bk_firstHolding : Nat → Option (List Bool) := fun pc => bif Nat.beq pc 2 then some [true, true, true, false, false] else (none)
abbrev q_Bk_firstHolding_0 (d : Nat) (a0 a1 : Int) (m : zM) (h : zH) (Q : zQ) : Prop := WP d n_Bk_firstHolding 0 [some (.inr (.inr a0)), some (.inl a1), none, none, none] [] m h Q
abbrev q_Bk_firstHolding_2 (d : Nat) (a0 a1 a2 : Int) (m : zM) (h : zH) (Q : zQ) : Prop := WP d n_Bk_firstHolding 2 [some (.inr (.inr a0)), some (.inl a1), some (.inl a2), none, none] [] m h Q
set_option maxRecDepth 100000 in
set_option maxHeartbeats 8000000 in
theorem s_Bk_firstHolding_0 (d : Nat) (a0 a1 : Int) (m : zM) (h : zH) (Q : zQ) (H :
  q_Bk_firstHolding_2 d a0 a1 0 m h Q) : q_Bk_firstHolding_0 d a0 a1 m h Q := zvc_ok zc_Bk_firstHolding zm_Bk_firstHolding 53 (fun _ => rfl) H
set_option maxRecDepth 100000 in
set_option maxHeartbeats 8000000 in
theorem s_Bk_firstHolding_2 (d : Nat) (a0 a1 a2 : Int) (m : zM) (h : zH) (Q : zQ) (H :
  kd h a0 = 3 ∧ ((m a0 2) ≤ a2 →
    Q (some (.inl ((-1)))) m h) ∧
  (¬ ((m a0 2) ≤ a2) →
    kd h a0 = 3 ∧ kd h a0 = 3 ∧ kd h (m a0 0) = 101 ∧ (0 : Int) ≤ a2 ∧ a2 < ln h (m a0 0) ∧ kd h (m a0 4) = 120 ∧ (0 : Int) ≤ (m (m a0 0) a2) ∧ (m (m a0 0) a2) < ln h (m a0 4) ∧ kd h a0 = 3 ∧ kd h (m a0 1) = 101 ∧ (0 : Int) ≤ a2 ∧ a2 < ln h (m a0 1) ∧ kd h (m (m a0 4) (m (m a0 0) a2)) = 10 ∧ kd h (m (m (m a0 4) (m (m a0 0) a2)) 2) = 101 ∧ (0 : Int) ≤ (m (m a0 1) a2) ∧ (m (m a0 1) a2) < ln h (m (m (m a0 4) (m (m a0 0) a2)) 2) ∧ ((m (m (m (m a0 4) (m (m a0 0) a2)) 2) (m (m a0 1) a2)) ≠ a1 →
      q_Bk_firstHolding_2 d a0 a1 (w32 (a2 + 1)) m h Q) ∧
    (¬ ((m (m (m (m a0 4) (m (m a0 0) a2)) 2) (m (m a0 1) a2)) ≠ a1) →
      kd h (m (m a0 4) (m (m a0 0) a2)) = 10 ∧ kd h (m (m (m a0 4) (m (m a0 0) a2)) 4) = 101 ∧ (0 : Int) ≤ (m (m a0 1) a2) ∧ (m (m a0 1) a2) < ln h (m (m (m a0 4) (m (m a0 0) a2)) 4) ∧ kd h (m (m a0 4) (m (m a0 0) a2)) = 10 ∧ kd h (m (m (m a0 4) (m (m a0 0) a2)) 5) = 101 ∧ (0 : Int) ≤ (m (m a0 1) a2) ∧ (m (m a0 1) a2) < ln h (m (m (m a0 4) (m (m a0 0) a2)) 5) ∧ ((m (m (m (m a0 4) (m (m a0 0) a2)) 5) (m (m a0 1) a2)) ≤ (m (m (m (m a0 4) (m (m a0 0) a2)) 4) (m (m a0 1) a2)) →
        Q (some (.inl a2)) m h) ∧
      (¬ ((m (m (m (m a0 4) (m (m a0 0) a2)) 5) (m (m a0 1) a2)) ≤ (m (m (m (m a0 4) (m (m a0 0) a2)) 4) (m (m a0 1) a2))) →
        kd h (m (m a0 4) (m (m a0 0) a2)) = 10 ∧ kd h (m (m (m a0 4) (m (m a0 0) a2)) 4) = 101 ∧ (0 : Int) ≤ (m (m a0 1) a2) ∧ (m (m a0 1) a2) < ln h (m (m (m a0 4) (m (m a0 0) a2)) 4) ∧ kd h (m (m a0 4) (m (m a0 0) a2)) = 10 ∧ kd h (m (m (m a0 4) (m (m a0 0) a2)) 5) = 101 ∧ (0 : Int) ≤ (m (m a0 1) a2) ∧ (m (m a0 1) a2) < ln h (m (m (m a0 4) (m (m a0 0) a2)) 5) ∧ kd h a0 = 3 ∧ zcal WP d n_Bk_work [.inr (.inr a0), .inr (.inr (m (m a0 4) (m (m a0 0) a2))), .inl (m (m (m (m a0 4) (m (m a0 0) a2)) 4) (m (m a0 1) a2)), .inl (m (m (m (m a0 4) (m (m a0 0) a2)) 5) (m (m a0 1) a2))] m h (zk1 fun r1 m1 h1 =>
        (r1 = 0 →
          q_Bk_firstHolding_2 d a0 a1 (w32 (a2 + 1)) m1 h1 Q) ∧
        (¬ (r1 = 0) →
          Q (some (.inl a2)) m1 h1)))))) : q_Bk_firstHolding_2 d a0 a1 a2 m h Q := zvc_ok zc_Bk_firstHolding zm_Bk_firstHolding 53 (fun _ => rfl) H
theorem e_Bk_firstHolding (d : Nat) (a0 a1 : Int) (m : zM) (h : zH) (Q : zQ) (H : q_Bk_firstHolding_0 d a0 a1 m h Q) : zcal WP (d + 1) n_Bk_firstHolding [.inr (.inr a0), .inl a1] m h Q := zcal_mk rfl H
def zm_Bk_amount : Nat → Option (List Bool) := fun pc => none
abbrev q_Bk_amount_0 (d : Nat) (a0 a1 a2 : Int) (m : zM) (h : zH) (Q : zQ) : Prop := WP d n_Bk_amount 0 [some (.inr (.inr a0)), some (.inl a1), some (.inl a2), none, none, none] [] m h Q
set_option maxRecDepth 100000 in
set_option maxHeartbeats 8000000 in
theorem s_Bk_amount_0 (d : Nat) (a0 a1 a2 : Int) (m : zM) (h : zH) (Q : zQ) (H :
  kd h a0 = 3 ∧ zcal WP d n_Es_within [.inl a1, .inl 0, .inl (w32 ((m a0 2) - 1))] m h (zk1 fun r1 m1 h1 =>
  (r1 ≠ 0 →
    kd h1 a0 = 3 ∧ kd h1 a0 = 3 ∧ kd h1 (m1 a0 0) = 101 ∧ (0 : Int) ≤ a1 ∧ a1 < ln h1 (m1 a0 0) ∧ kd h1 (m1 a0 4) = 120 ∧ (0 : Int) ≤ (m1 (m1 a0 0) a1) ∧ (m1 (m1 a0 0) a1) < ln h1 (m1 a0 4) ∧ kd h1 a0 = 3 ∧ kd h1 (m1 a0 1) = 101 ∧ (0 : Int) ≤ a1 ∧ a1 < ln h1 (m1 a0 1) ∧ kd h1 (m1 (m1 a0 4) (m1 (m1 a0 0) a1)) = 10 ∧ kd h1 (m1 (m1 (m1 a0 4) (m1 (m1 a0 0) a1)) 3) = 101 ∧ (0 : Int) ≤ (m1 (m1 a0 1) a1) ∧ (m1 (m1 a0 1) a1) < ln h1 (m1 (m1 (m1 a0 4) (m1 (m1 a0 0) a1)) 3) ∧ kd h1 (m1 (m1 a0 4) (m1 (m1 a0 0) a1)) = 10 ∧ kd h1 (m1 (m1 (m1 a0 4) (m1 (m1 a0 0) a1)) 4) = 101 ∧ (0 : Int) ≤ (m1 (m1 a0 1) a1) ∧ (m1 (m1 a0 1) a1) < ln h1 (m1 (m1 (m1 a0 4) (m1 (m1 a0 0) a1)) 4) ∧ kd h1 a0 = 3 ∧ zcal WP d n_Bk_work [.inr (.inr a0), .inr (.inr (m1 (m1 a0 4) (m1 (m1 a0 0) a1))), .inl (m1 (m1 (m1 (m1 a0 4) (m1 (m1 a0 0) a1)) 3) (m1 (m1 a0 1) a1)), .inl (m1 (m1 (m1 (m1 a0 4) (m1 (m1 a0 0) a1)) 4) (m1 (m1 a0 1) a1))] m1 h1 (zk1 fun r2 m2 h2 =>
    kd h2 a0 = 3 ∧ ((m2 a0 10) = 0 →
      Q (some (.inl (max 0 (min a2 r2)))) m2 h2) ∧
    (¬ ((m2 a0 10) = 0) →
      Q (some (.inl (0 : Int))) m2 h2))) ∧
  (¬ (r1 ≠ 0) →
    Q (some (.inl (0 : Int))) m1 h1))) : q_Bk_amount_0 d a0 a1 a2 m h Q := zvc_ok zc_Bk_amount zm_Bk_amount 47 (fun _ => rfl) H
theorem e_Bk_amount (d : Nat) (a0 a1 a2 : Int) (m : zM) (h : zH) (Q : zQ) (H : q_Bk_amount_0 d a0 a1 a2 m h Q) : zcal WP (d + 1) n_Bk_amount [.inr (.inr a0), .inl a1, .inl a2] m h Q := zcal_mk rfl H
def zm_Bk_work : Nat → Option (List Bool) := fun pc => bif Nat.beq pc 13 then some [true, true, false, true, true, false] else (none)
abbrev q_Bk_work_0 (d : Nat) (a0 a1 a2 a3 : Int) (m : zM) (h : zH) (Q : zQ) : Prop := WP d n_Bk_work 0 [some (.inr (.inr a0)), some (.inr (.inr a1)), some (.inl a2), some (.inl a3), none, none] [] m h Q
abbrev q_Bk_work_13 (d : Nat) (a0 a1 a3 a4 : Int) (m : zM) (h : zH) (Q : zQ) : Prop := WP d n_Bk_work 13 [some (.inr (.inr a0)), some (.inr (.inr a1)), none, some (.inl a3), some (.inl a4), none] [] m h Q
set_option maxRecDepth 100000 in
set_option maxHeartbeats 8000000 in
theorem s_Bk_work_0 (d : Nat) (a0 a1 a2 a3 : Int) (m : zM) (h : zH) (Q : zQ) (H :
  kd h a0 = 3 ∧ 0 < a0 ∧ ∀ m1, m1 = zwr m a0 9 0 →
  ((0 : Int) = 0 ∨ (0 : Int) = 1) ∧ kd h a0 = 3 ∧ 0 < a0 ∧ ∀ m2, m2 = zwr m1 a0 10 0 →
  q_Bk_work_13 d a0 a1 a3 a2 m2 h Q) : q_Bk_work_0 d a0 a1 a2 a3 m h Q := zvc_ok zc_Bk_work zm_Bk_work 54 (fun _ => rfl) H
set_option maxRecDepth 100000 in
set_option maxHeartbeats 8000000 in
theorem s_Bk_work_13 (d : Nat) (a0 a1 a3 a4 : Int) (m : zM) (h : zH) (Q : zQ) (H :
  (a3 ≤ a4 →
    kd h a0 = 3 ∧ ((m a0 9) ≤ 0 →
      Q (some (.inl (0 : Int))) m h) ∧
    (¬ ((m a0 9) ≤ 0) →
      kd h a0 = 3 ∧ kd h a0 = 3 ∧ kd h (m a0 8) = 101 ∧ (0 : Int) ≤ (w32 ((m a0 9) - 1)) ∧ (w32 ((m a0 9) - 1)) < ln h (m a0 8) ∧ Q (some (.inl (m (m a0 8) (w32 ((m a0 9) - 1))))) m h)) ∧
  (¬ (a3 ≤ a4) →
    kd h a1 = 10 ∧ kd h (m a1 0) = 101 ∧ (0 : Int) ≤ a4 ∧ a4 < ln h (m a1 0) ∧ ((20000 : Int) ≤ (m (m a1 0) a4) →
      kd h a0 = 3 ∧ zcal WP d n_Bk_apply [.inr (.inr a0), .inl (w32 ((m (m a1 0) a4) - 20000))] m h (zk0 fun m1 h1 =>
      q_Bk_work_13 d a0 a1 a3 (w32 (a4 + 1)) m1 h1 Q)) ∧
    (¬ ((20000 : Int) ≤ (m (m a1 0) a4)) →
      ((10000 : Int) ≤ (m (m a1 0) a4) →
        kd h a0 = 3 ∧ kd h (m a0 7) = 101 ∧ (0 : Int) ≤ (w32 ((m (m a1 0) a4) - 10000)) ∧ (w32 ((m (m a1 0) a4) - 10000)) < ln h (m a0 7) ∧ kd h a0 = 3 ∧ zcal WP d n_Bk_push [.inr (.inr a0), .inl (m (m a0 7) (w32 ((m (m a1 0) a4) - 10000)))] m h (zk0 fun m1 h1 =>
        q_Bk_work_13 d a0 a1 a3 (w32 (a4 + 1)) m1 h1 Q)) ∧
      (¬ ((10000 : Int) ≤ (m (m a1 0) a4)) →
        kd h a0 = 3 ∧ zcal WP d n_Bk_push [.inr (.inr a0), .inl (m (m a1 0) a4)] m h (zk0 fun m1 h1 =>
        q_Bk_work_13 d a0 a1 a3 (w32 (a4 + 1)) m1 h1 Q))))) : q_Bk_work_13 d a0 a1 a3 a4 m h Q := zvc_ok zc_Bk_work zm_Bk_work 54 (fun _ => rfl) H
theorem e_Bk_work (d : Nat) (a0 a1 a2 a3 : Int) (m : zM) (h : zH) (Q : zQ) (H : q_Bk_work_0 d a0 a1 a2 a3 m h Q) : zcal WP (d + 1) n_Bk_work [.inr (.inr a0), .inr (.inr a1), .inl a2, .inl a3] m h Q := zcal_mk rfl H
def zm_Bk_push : Nat → Option (List Bool) := fun pc => none
abbrev q_Bk_push_0 (d : Nat) (a0 a1 : Int) (m : zM) (h : zH) (Q : zQ) : Prop := WP d n_Bk_push 0 [some (.inr (.inr a0)), some (.inl a1)] [] m h Q
set_option maxRecDepth 100000 in
set_option maxHeartbeats 8000000 in
theorem s_Bk_push_0 (d : Nat) (a0 a1 : Int) (m : zM) (h : zH) (Q : zQ) (H :
  kd h a0 = 3 ∧ ((64 : Int) ≤ (m a0 9) →
    Q none m h) ∧
  (¬ ((64 : Int) ≤ (m a0 9)) →
    kd h a0 = 3 ∧ kd h a0 = 3 ∧ kd h (m a0 8) = 101 ∧ 0 < (m a0 8) ∧ (0 : Int) ≤ (m a0 9) ∧ (m a0 9) < ln h (m a0 8) ∧ ∀ m1, m1 = zwr m (m a0 8) (m a0 9) a1 →
    kd h a0 = 3 ∧ kd h a0 = 3 ∧ 0 < a0 ∧ ∀ m2, m2 = zwr m1 a0 9 (w32 ((m1 a0 9) + 1)) →
    Q none m2 h)) : q_Bk_push_0 d a0 a1 m h Q := zvc_ok zc_Bk_push zm_Bk_push 18 (fun _ => rfl) H
theorem e_Bk_push (d : Nat) (a0 a1 : Int) (m : zM) (h : zH) (Q : zQ) (H : q_Bk_push_0 d a0 a1 m h Q) : zcal WP (d + 1) n_Bk_push [.inr (.inr a0), .inl a1] m h Q := zcal_mk rfl H
def zm_Bk_apply : Nat → Option (List Bool) := fun pc => bif Nat.beq pc 40 then some [true, true, false, false, false] else (none)
abbrev q_Bk_apply_0 (d : Nat) (a0 a1 : Int) (m : zM) (h : zH) (Q : zQ) : Prop := WP d n_Bk_apply 0 [some (.inr (.inr a0)), some (.inl a1), none, none, none] [] m h Q
abbrev q_Bk_apply_40 (d : Nat) (a0 a1 : Int) (m : zM) (h : zH) (Q : zQ) : Prop := WP d n_Bk_apply 40 [some (.inr (.inr a0)), some (.inl a1), none, none, none] [] m h Q
set_option maxRecDepth 100000 in
set_option maxHeartbeats 8000000 in
theorem s_Bk_apply_0 (d : Nat) (a0 a1 : Int) (m : zM) (h : zH) (Q : zQ) (H :
  (a1 ≠ 8 →
    q_Bk_apply_40 d a0 a1 m h Q) ∧
  (¬ (a1 ≠ 8) →
    kd h a0 = 3 ∧ ((m a0 9) ≤ 0 →
      q_Bk_apply_40 d a0 a1 m h Q) ∧
    (¬ ((m a0 9) ≤ 0) →
      kd h a0 = 3 ∧ kd h a0 = 3 ∧ kd h a0 = 3 ∧ kd h a0 = 3 ∧ kd h (m a0 8) = 101 ∧ (0 : Int) ≤ (w32 ((m a0 9) - 1)) ∧ (w32 ((m a0 9) - 1)) < ln h (m a0 8) ∧ kd h (m a0 8) = 101 ∧ 0 < (m a0 8) ∧ (0 : Int) ≤ (w32 ((m a0 9) - 1)) ∧ (w32 ((m a0 9) - 1)) < ln h (m a0 8) ∧ ∀ m1, m1 = zwr m (m a0 8) (w32 ((m a0 9) - 1)) (w32 (1 - (m (m a0 8) (w32 ((m a0 9) - 1))))) →
      Q none m1 h))) : q_Bk_apply_0 d a0 a1 m h Q := zvc_ok zc_Bk_apply zm_Bk_apply 74 (fun _ => rfl) H
set_option maxRecDepth 100000 in
set_option maxHeartbeats 8000000 in
theorem s_Bk_apply_40 (d : Nat) (a0 a1 : Int) (m : zM) (h : zH) (Q : zQ) (H :
  kd h a0 = 3 ∧ ((m a0 9) ≤ 1 →
    Q none m h) ∧
  (¬ ((m a0 9) ≤ 1) →
    kd h a0 = 3 ∧ kd h a0 = 3 ∧ 0 < a0 ∧ ∀ m1, m1 = zwr m a0 9 (w32 ((m a0 9) - 1)) →
    kd h a0 = 3 ∧ kd h a0 = 3 ∧ kd h (m1 a0 8) = 101 ∧ (0 : Int) ≤ (w32 ((m1 a0 9) - 1)) ∧ (w32 ((m1 a0 9) - 1)) < ln h (m1 a0 8) ∧ kd h a0 = 3 ∧ kd h a0 = 3 ∧ kd h (m1 a0 8) = 101 ∧ (0 : Int) ≤ (m1 a0 9) ∧ (m1 a0 9) < ln h (m1 a0 8) ∧ zcal WP d n_Es_within [.inl a1, .inl 4, .inl 7] m1 h (zk1 fun r2 m2 h2 =>
    kd h2 a0 = 3 ∧ kd h2 a0 = 3 ∧ (r2 = 0 →
      kd h2 a0 = 3 ∧ zcal WP d n_Bk_combine [.inr (.inr a0), .inl a1, .inl (m1 (m1 a0 8) (w32 ((m1 a0 9) - 1))), .inl (m1 (m1 a0 8) (m1 a0 9))] m2 h2 (zk1 fun r3 m3 h3 =>
      kd h3 (m2 a0 8) = 101 ∧ 0 < (m2 a0 8) ∧ (0 : Int) ≤ (w32 ((m2 a0 9) - 1)) ∧ (w32 ((m2 a0 9) - 1)) < ln h3 (m2 a0 8) ∧ ∀ m4, m4 = zwr m3 (m2 a0 8) (w32 ((m2 a0 9) - 1)) r3 →
      Q none m4 h3)) ∧
    (¬ (r2 = 0) →
      kd h2 a0 = 3 ∧ zcal WP d n_Bk_compareBoth [.inr (.inr a0), .inl a1, .inl (m1 (m1 a0 8) (w32 ((m1 a0 9) - 1))), .inl (m1 (m1 a0 8) (m1 a0 9))] m2 h2 (zk1 fun r3 m3 h3 =>
      kd h3 (m2 a0 8) = 101 ∧ 0 < (m2 a0 8) ∧ (0 : Int) ≤ (w32 ((m2 a0 9) - 1)) ∧ (w32 ((m2 a0 9) - 1)) < ln h3 (m2 a0 8) ∧ ∀ m4, m4 = zwr m3 (m2 a0 8) (w32 ((m2 a0 9) - 1)) r3 →
      Q none m4 h3))))) : q_Bk_apply_40 d a0 a1 m h Q := zvc_ok zc_Bk_apply zm_Bk_apply 74 (fun _ => rfl) H
theorem e_Bk_apply (d : Nat) (a0 a1 : Int) (m : zM) (h : zH) (Q : zQ) (H : q_Bk_apply_0 d a0 a1 m h Q) : zcal WP (d + 1) n_Bk_apply [.inr (.inr a0), .inl a1] m h Q := zcal_mk rfl H
def zm_Bk_combine : Nat → Option (List Bool) := fun pc => bif Nat.beq pc 85 then some [false, false, true, true] else (none)
abbrev q_Bk_combine_0 (d : Nat) (a0 a1 a2 a3 : Int) (m : zM) (h : zH) (Q : zQ) : Prop := WP d n_Bk_combine 0 [some (.inr (.inr a0)), some (.inl a1), some (.inl a2), some (.inl a3)] [] m h Q
abbrev q_Bk_combine_85 (d : Nat) (a2 a3 s0 s1 : Int) (m : zM) (h : zH) (Q : zQ) : Prop := WP d n_Bk_combine 85 [none, none, some (.inl a2), some (.inl a3)] [.inl s0, .inr (.inr s1)] m h Q
set_option maxRecDepth 100000 in
set_option maxHeartbeats 8000000 in
theorem s_Bk_combine_0 (d : Nat) (a0 a1 a2 a3 : Int) (m : zM) (h : zH) (Q : zQ) (H :
  (a1 = 0 →
    Q (some (.inl (w32 (a2 + a3)))) m h) ∧
  (¬ a1 = 0 →
  (a1 = 1 →
    Q (some (.inl (w32 (a2 - a3)))) m h) ∧
  (¬ a1 = 1 →
  (a1 = 2 →
    Q (some (.inl (w32 (a2 * a3)))) m h) ∧
  (¬ a1 = 2 →
  (a1 = 3 →
    kd h a0 = 3 ∧ ((m a0 10) ≠ 0 →
      q_Bk_combine_85 d a2 a3 1 a0 m h Q) ∧
    (¬ ((m a0 10) ≠ 0) →
      (a3 ≠ 0 →
        q_Bk_combine_85 d a2 a3 0 a0 m h Q) ∧
      (¬ (a3 ≠ 0) →
        q_Bk_combine_85 d a2 a3 1 a0 m h Q))) ∧
  (¬ a1 = 3 →
  (a1 = 4 →
    Q (some (.inl (zor a2 a3))) m h) ∧
  (¬ a1 = 4 →
  (a1 = 5 →
    Q (some (.inl (zor a2 a3))) m h) ∧
  (¬ a1 = 5 →
  (a1 = 6 →
    Q (some (.inl (zor a2 a3))) m h) ∧
  (¬ a1 = 6 →
  (a1 = 7 →
    Q (some (.inl (zor a2 a3))) m h) ∧
  (¬ a1 = 7 →
  (a1 = 8 →
    Q (some (.inl (zor a2 a3))) m h) ∧
  (¬ a1 = 8 →
  (a1 = 9 →
    Q (some (.inl (zand a2 a3))) m h) ∧
  (¬ a1 = 9 →
    Q (some (.inl (zor a2 a3))) m h))))))))))) : q_Bk_combine_0 d a0 a1 a2 a3 m h Q := zvc_ok zc_Bk_combine zm_Bk_combine 41 (fun _ => rfl) H
set_option maxRecDepth 100000 in
set_option maxHeartbeats 8000000 in
theorem s_Bk_combine_85 (d : Nat) (a2 a3 s0 s1 : Int) (m : zM) (h : zH) (Q : zQ) (H :
  (s0 = 0 ∨ s0 = 1) ∧ kd h s1 = 3 ∧ 0 < s1 ∧ ∀ m1, m1 = zwr m s1 10 s0 →
  (a3 ≠ 0 →
    a3 ≠ 0 ∧ Q (some (.inl (zdiv a2 a3))) m1 h) ∧
  (¬ (a3 ≠ 0) →
    Q (some (.inl (0 : Int))) m1 h)) : q_Bk_combine_85 d a2 a3 s0 s1 m h Q := zvc_ok zc_Bk_combine zm_Bk_combine 41 (fun _ => rfl) H
theorem e_Bk_combine (d : Nat) (a0 a1 a2 a3 : Int) (m : zM) (h : zH) (Q : zQ) (H : q_Bk_combine_0 d a0 a1 a2 a3 m h Q) : zcal WP (d + 1) n_Bk_combine [.inr (.inr a0), .inl a1, .inl a2, .inl a3] m h Q := zcal_mk rfl H
def zm_Bk_compareBoth : Nat → Option (List Bool) := fun pc => bif Nat.beq pc 85 then some [true, false, false, false, true] else (bif Nat.beq pc 102 then some [true, false, false, false, false] else (none))
abbrev q_Bk_compareBoth_0 (d : Nat) (a0 a1 a2 a3 : Int) (m : zM) (h : zH) (Q : zQ) : Prop := WP d n_Bk_compareBoth 0 [some (.inr (.inr a0)), some (.inl a1), some (.inl a2), some (.inl a3), none] [] m h Q
abbrev q_Bk_compareBoth_85 (d : Nat) (a0 a4 : Int) (m : zM) (h : zH) (Q : zQ) : Prop := WP d n_Bk_compareBoth 85 [some (.inr (.inr a0)), none, none, none, some (.inl a4)] [] m h Q
abbrev q_Bk_compareBoth_102 (d : Nat) (a0 s0 : Int) (m : zM) (h : zH) (Q : zQ) : Prop := WP d n_Bk_compareBoth 102 [some (.inr (.inr a0)), none, none, none, none] [.inl s0] m h Q
set_option maxRecDepth 100000 in
set_option maxHeartbeats 8000000 in
theorem s_Bk_compareBoth_0 (d : Nat) (a0 a1 a2 a3 : Int) (m : zM) (h : zH) (Q : zQ) (H :
  (a1 = 4 →
    (a2 ≠ a3 →
      q_Bk_compareBoth_85 d a0 0 m h Q) ∧
    (¬ (a2 ≠ a3) →
      q_Bk_compareBoth_85 d a0 1 m h Q)) ∧
  (¬ a1 = 4 →
  (a1 = 5 →
    (a2 = a3 →
      q_Bk_compareBoth_85 d a0 0 m h Q) ∧
    (¬ (a2 = a3) →
      q_Bk_compareBoth_85 d a0 1 m h Q)) ∧
  (¬ a1 = 5 →
  (a1 = 6 →
    (a3 ≤ a2 →
      q_Bk_compareBoth_85 d a0 0 m h Q) ∧
    (¬ (a3 ≤ a2) →
      q_Bk_compareBoth_85 d a0 1 m h Q)) ∧
  (¬ a1 = 6 →
    (a3 < a2 →
      q_Bk_compareBoth_85 d a0 0 m h Q) ∧
    (¬ (a3 < a2) →
      q_Bk_compareBoth_85 d a0 1 m h Q))))) : q_Bk_compareBoth_0 d a0 a1 a2 a3 m h Q := zvc_ok zc_Bk_compareBoth zm_Bk_compareBoth 52 (fun _ => rfl) H
set_option maxRecDepth 100000 in
set_option maxHeartbeats 8000000 in
theorem s_Bk_compareBoth_85 (d : Nat) (a0 a4 : Int) (m : zM) (h : zH) (Q : zQ) (H :
  (a4 = 0 →
    q_Bk_compareBoth_102 d a0 0 m h Q) ∧
  (¬ (a4 = 0) →
    kd h a0 = 3 ∧ ((m a0 10) ≠ 0 →
      q_Bk_compareBoth_102 d a0 0 m h Q) ∧
    (¬ ((m a0 10) ≠ 0) →
      q_Bk_compareBoth_102 d a0 1 m h Q))) : q_Bk_compareBoth_85 d a0 a4 m h Q := zvc_ok zc_Bk_compareBoth zm_Bk_compareBoth 52 (fun _ => rfl) H
set_option maxRecDepth 100000 in
set_option maxHeartbeats 8000000 in
theorem s_Bk_compareBoth_102 (d : Nat) (a0 s0 : Int) (m : zM) (h : zH) (Q : zQ) (H :
  ((0 : Int) = 0 ∨ (0 : Int) = 1) ∧ kd h a0 = 3 ∧ 0 < a0 ∧ ∀ m1, m1 = zwr m a0 10 0 →
  (s0 = 0 →
    Q (some (.inl (0 : Int))) m1 h) ∧
  (¬ (s0 = 0) →
    Q (some (.inl (1 : Int))) m1 h)) : q_Bk_compareBoth_102 d a0 s0 m h Q := zvc_ok zc_Bk_compareBoth zm_Bk_compareBoth 52 (fun _ => rfl) H
theorem e_Bk_compareBoth (d : Nat) (a0 a1 a2 a3 : Int) (m : zM) (h : zH) (Q : zQ) (H : q_Bk_compareBoth_0 d a0 a1 a2 a3 m h Q) : zcal WP (d + 1) n_Bk_compareBoth [.inr (.inr a0), .inl a1, .inl a2, .inl a3] m h Q := zcal_mk rfl H
def zm_Cd_init : Nat → Option (List Bool) := fun pc => none
abbrev q_Cd_init_0 (d : Nat) (a0 : Int) (m : zM) (h : zH) (Q : zQ) : Prop := WP d n_Cd_init 0 [some (.inr (.inr a0))] [] m h Q
set_option maxRecDepth 100000 in
set_option maxHeartbeats 8000000 in
theorem s_Cd_init_0 (d : Nat) (a0 : Int) (m : zM) (h : zH) (Q : zQ) (H :
  0 < a0 ∧ (0 : Int) ≤ 12 ∧ 12 ≤ (100000 : Int) ∧ ∀ m1 h1, m1 = znm m h → h1 = znh h 101 12 12 →
  kd h1 a0 = 4 ∧ 0 < a0 ∧ ∀ m2, m2 = zwr m1 a0 0 (nx h) →
  (0 : Int) ≤ 9 ∧ 9 ≤ (100000 : Int) ∧ ∀ m3 h3, m3 = znm m2 h1 → h3 = znh h1 101 9 9 →
  kd h3 a0 = 4 ∧ 0 < a0 ∧ ∀ m4, m4 = zwr m3 a0 1 (nx h1) →
  (0 : Int) ≤ 5 ∧ 5 ≤ (100000 : Int) ∧ ∀ m5 h5, m5 = znm m4 h3 → h5 = znh h3 101 5 5 →
  kd h5 a0 = 4 ∧ 0 < a0 ∧ ∀ m6, m6 = zwr m5 a0 2 (nx h3) →
  (0 : Int) ≤ 8 ∧ 8 ≤ (100000 : Int) ∧ ∀ m7 h7, m7 = znm m6 h5 → h7 = znh h5 101 8 8 →
  kd h7 a0 = 4 ∧ 0 < a0 ∧ ∀ m8, m8 = zwr m7 a0 4 (nx h5) →
  (0 : Int) ≤ 256 ∧ 256 ≤ (100000 : Int) ∧ ∀ m9 h9, m9 = znm m8 h7 → h9 = znh h7 101 256 256 →
  kd h9 a0 = 4 ∧ 0 < a0 ∧ ∀ m10, m10 = zwr m9 a0 6 (nx h7) →
  (0 : Int) ≤ 32 ∧ 32 ≤ (100000 : Int) ∧ ∀ m11 h11, m11 = znm m10 h9 → h11 = znh h9 101 32 32 →
  kd h11 a0 = 4 ∧ 0 < a0 ∧ ∀ m12, m12 = zwr m11 a0 7 (nx h9) →
  (0 : Int) ≤ 5 ∧ 5 ≤ (100000 : Int) ∧ ∀ m13 h13, m13 = znm m12 h11 → h13 = znh h11 101 5 5 →
  kd h13 a0 = 4 ∧ 0 < a0 ∧ ∀ m14, m14 = zwr m13 a0 8 (nx h11) →
  (0 : Int) ≤ 5 ∧ 5 ≤ (100000 : Int) ∧ ∀ m15 h15, m15 = znm m14 h13 → h15 = znh h13 101 5 5 →
  kd h15 a0 = 4 ∧ 0 < a0 ∧ ∀ m16, m16 = zwr m15 a0 9 (nx h13) →
  kd h15 a0 = 4 ∧ zcal WP d n_Jn_fill [.inr (.inr (m16 a0 1)), .inl ((-1))] m16 h15 (zk0 fun m17 h17 =>
  Q none m17 h17)) : q_Cd_init_0 d a0 m h Q := zvc_ok zc_Cd_init zm_Cd_init 40 (fun _ => rfl) H
theorem e_Cd_init (d : Nat) (a0 : Int) (m : zM) (h : zH) (Q : zQ) (H : q_Cd_init_0 d a0 m h Q) : zcal WP (d + 1) n_Cd_init [.inr (.inr a0)] m h Q := zcal_mk rfl H
def zm_Cd_ask : Nat → Option (List Bool) := fun pc => bif Nat.beq pc 8 then some [true, true, true, true, true] else (bif Nat.beq pc 69 then some [true, true, false, true, true] else (none))
abbrev q_Cd_ask_0 (d : Nat) (a0 a1 a2 a3 : Int) (m : zM) (h : zH) (Q : zQ) : Prop := WP d n_Cd_ask 0 [some (.inr (.inr a0)), some (.inr (.inr a1)), some (.inl a2), some (.inl a3), none] [] m h Q
abbrev q_Cd_ask_8 (d : Nat) (a0 a1 a2 a3 a4 : Int) (m : zM) (h : zH) (Q : zQ) : Prop := WP d n_Cd_ask 8 [some (.inr (.inr a0)), some (.inr (.inr a1)), some (.inl a2), some (.inl a3), some (.inl a4)] [] m h Q
abbrev q_Cd_ask_69 (d : Nat) (a0 a1 a3 a4 : Int) (m : zM) (h : zH) (Q : zQ) : Prop := WP d n_Cd_ask 69 [some (.inr (.inr a0)), some (.inr (.inr a1)), none, some (.inl a3), some (.inl a4)] [] m h Q
set_option maxRecDepth 100000 in
set_option maxHeartbeats 8000000 in
theorem s_Cd_ask_0 (d : Nat) (a0 a1 a2 a3 : Int) (m : zM) (h : zH) (Q : zQ) (H :
  kd h a0 = 4 ∧ 0 < a0 ∧ ∀ m1, m1 = zwr m a0 3 0 →
  q_Cd_ask_8 d a0 a1 a2 a3 0 m1 h Q) : q_Cd_ask_0 d a0 a1 a2 a3 m h Q := zvc_ok zc_Cd_ask zm_Cd_ask 78 (fun _ => rfl) H
set_option maxRecDepth 100000 in
set_option maxHeartbeats 8000000 in
theorem s_Cd_ask_8 (d : Nat) (a0 a1 a2 a3 a4 : Int) (m : zM) (h : zH) (Q : zQ) (H :
  kd h a1 = 2 ∧ ((m a1 3) ≤ a4 →
    kd h a0 = 4 ∧ 0 < a0 ∧ ∀ m1, m1 = zwr m a0 5 0 →
    q_Cd_ask_69 d a0 a1 a3 0 m1 h Q) ∧
  (¬ ((m a1 3) ≤ a4) →
    ((zand (zshr a2 a4) 1) = 0 →
      q_Cd_ask_8 d a0 a1 a2 a3 (w32 (a4 + 1)) m h Q) ∧
    (¬ ((zand (zshr a2 a4) 1) = 0) →
      kd h a0 = 4 ∧ ((5 : Int) ≤ (m a0 3) →
        q_Cd_ask_8 d a0 a1 a2 a3 (w32 (a4 + 1)) m h Q) ∧
      (¬ ((5 : Int) ≤ (m a0 3)) →
        kd h a0 = 4 ∧ kd h a0 = 4 ∧ kd h (m a0 2) = 101 ∧ 0 < (m a0 2) ∧ (0 : Int) ≤ (m a0 3) ∧ (m a0 3) < ln h (m a0 2) ∧ ∀ m1, m1 = zwr m (m a0 2) (m a0 3) a4 →
        kd h a0 = 4 ∧ kd h a0 = 4 ∧ 0 < a0 ∧ ∀ m2, m2 = zwr m1 a0 3 (w32 ((m1 a0 3) + 1)) →
        q_Cd_ask_8 d a0 a1 a2 a3 (w32 (a4 + 1)) m2 h Q)))) : q_Cd_ask_8 d a0 a1 a2 a3 a4 m h Q := zvc_ok zc_Cd_ask zm_Cd_ask 78 (fun _ => rfl) H
set_option maxRecDepth 100000 in
set_option maxHeartbeats 8000000 in
theorem s_Cd_ask_69 (d : Nat) (a0 a1 a3 a4 : Int) (m : zM) (h : zH) (Q : zQ) (H :
  kd h a1 = 2 ∧ ((m a1 7) ≤ a4 →
    kd h a0 = 4 ∧ kd h a0 = 4 ∧ kd h a0 = 4 ∧ zcal WP d n_Es_uniteSets [.inr (.inr (m a0 4)), .inl (m a0 5), .inr (.inr (m a0 6))] m h (zk0 fun m1 h1 =>
    Q none m1 h1)) ∧
  (¬ ((m a1 7) ≤ a4) →
    ((zand (zshr a3 a4) 1) = 0 →
      q_Cd_ask_69 d a0 a1 a3 (w32 (a4 + 1)) m h Q) ∧
    (¬ ((zand (zshr a3 a4) 1) = 0) →
      kd h a0 = 4 ∧ ((8 : Int) ≤ (m a0 5) →
        q_Cd_ask_69 d a0 a1 a3 (w32 (a4 + 1)) m h Q) ∧
      (¬ ((8 : Int) ≤ (m a0 5)) →
        kd h a0 = 4 ∧ kd h a0 = 4 ∧ kd h a0 = 4 ∧ zcal WP d n_Cd_findAble [.inr (.inr a0), .inr (.inr a1), .inl a4] m h (zk1 fun r1 m1 h1 =>
        kd h1 (m a0 4) = 101 ∧ 0 < (m a0 4) ∧ (0 : Int) ≤ (m a0 5) ∧ (m a0 5) < ln h1 (m a0 4) ∧ ∀ m2, m2 = zwr m1 (m a0 4) (m a0 5) r1 →
        kd h1 a0 = 4 ∧ kd h1 a0 = 4 ∧ 0 < a0 ∧ ∀ m3, m3 = zwr m2 a0 5 (w32 ((m2 a0 5) + 1)) →
        q_Cd_ask_69 d a0 a1 a3 (w32 (a4 + 1)) m3 h1 Q))))) : q_Cd_ask_69 d a0 a1 a3 a4 m h Q := zvc_ok zc_Cd_ask zm_Cd_ask 78 (fun _ => rfl) H
theorem e_Cd_ask (d : Nat) (a0 a1 a2 a3 : Int) (m : zM) (h : zH) (Q : zQ) (H : q_Cd_ask_0 d a0 a1 a2 a3 m h Q) : zcal WP (d + 1) n_Cd_ask [.inr (.inr a0), .inr (.inr a1), .inl a2, .inl a3] m h Q := zcal_mk rfl H
def zm_Cd_findAble : Nat → Option (List Bool) := fun pc => bif Nat.beq pc 5 then some [true, true, true, true, true] else (none)
abbrev q_Cd_findAble_0 (d : Nat) (a0 a1 a2 : Int) (m : zM) (h : zH) (Q : zQ) : Prop := WP d n_Cd_findAble 0 [some (.inr (.inr a0)), some (.inr (.inr a1)), some (.inl a2), none, none] [] m h Q
abbrev q_Cd_findAble_5 (d : Nat) (a0 a1 a2 a3 a4 : Int) (m : zM) (h : zH) (Q : zQ) : Prop := WP d n_Cd_findAble 5 [some (.inr (.inr a0)), some (.inr (.inr a1)), some (.inl a2), some (.inl a3), some (.inl a4)] [] m h Q
set_option maxRecDepth 100000 in
set_option maxHeartbeats 8000000 in
theorem s_Cd_findAble_0 (d : Nat) (a0 a1 a2 : Int) (m : zM) (h : zH) (Q : zQ) (H :
  q_Cd_findAble_5 d a0 a1 a2 0 0 m h Q) : q_Cd_findAble_0 d a0 a1 a2 m h Q := zvc_ok zc_Cd_findAble zm_Cd_findAble 32 (fun _ => rfl) H
set_option maxRecDepth 100000 in
set_option maxHeartbeats 8000000 in
theorem s_Cd_findAble_5 (d : Nat) (a0 a1 a2 a3 a4 : Int) (m : zM) (h : zH) (Q : zQ) (H :
  kd h a1 = 2 ∧ ((m a1 3) ≤ a4 →
    Q (some (.inl a3)) m h) ∧
  (¬ ((m a1 3) ≤ a4) →
    kd h a0 = 4 ∧ kd h (m a0 0) = 101 ∧ (0 : Int) ≤ a2 ∧ a2 < ln h (m a0 0) ∧ kd h a1 = 2 ∧ kd h (m a1 2) = 116 ∧ (0 : Int) ≤ a4 ∧ a4 < ln h (m a1 2) ∧ kd h (m (m a1 2) a4) = 6 ∧ ((zand (zshr (m (m a0 0) a2) (m (m (m a1 2) a4) 0)) 1) ≠ 0 →
      q_Cd_findAble_5 d a0 a1 a2 a3 (w32 (a4 + 1)) m h Q) ∧
    (¬ ((zand (zshr (m (m a0 0) a2) (m (m (m a1 2) a4) 0)) 1) ≠ 0) →
      q_Cd_findAble_5 d a0 a1 a2 (zor a3 (zshl 1 a4)) (w32 (a4 + 1)) m h Q))) : q_Cd_findAble_5 d a0 a1 a2 a3 a4 m h Q := zvc_ok zc_Cd_findAble zm_Cd_findAble 32 (fun _ => rfl) H
theorem e_Cd_findAble (d : Nat) (a0 a1 a2 : Int) (m : zM) (h : zH) (Q : zQ) (H : q_Cd_findAble_0 d a0 a1 a2 m h Q) : zcal WP (d + 1) n_Cd_findAble [.inr (.inr a0), .inr (.inr a1), .inl a2] m h Q := zcal_mk rfl H
def zm_Cd_solve : Nat → Option (List Bool) := fun pc => bif Nat.beq pc 53 then some [true, false, false, false, true] else (none)
abbrev q_Cd_solve_0 (d : Nat) (a0 a1 a2 a3 : Int) (m : zM) (h : zH) (Q : zQ) : Prop := WP d n_Cd_solve 0 [some (.inr (.inr a0)), some (.inl a1), some (.inl a2), some (.inl a3), none] [] m h Q
abbrev q_Cd_solve_53 (d : Nat) (a0 a4 : Int) (m : zM) (h : zH) (Q : zQ) : Prop := WP d n_Cd_solve 53 [some (.inr (.inr a0)), none, none, none, some (.inl a4)] [] m h Q
set_option maxRecDepth 100000 in
set_option maxHeartbeats 8000000 in
theorem s_Cd_solve_0 (d : Nat) (a0 a1 a2 a3 : Int) (m : zM) (h : zH) (Q : zQ) (H :
  kd h a0 = 4 ∧ 0 < a0 ∧ ∀ m1, m1 = zwr m a0 10 a1 →
  kd h a0 = 4 ∧ 0 < a0 ∧ ∀ m2, m2 = zwr m1 a0 11 a2 →
  kd h a0 = 4 ∧ 0 < a0 ∧ ∀ m3, m3 = zwr m2 a0 12 a3 →
  kd h a0 = 4 ∧ zcal WP d n_Jn_fill [.inr (.inr (m3 a0 7)), .inl 0] m3 h (zk0 fun m4 h4 =>
  kd h4 a0 = 4 ∧ zcal WP d n_Jn_fill [.inr (.inr (m4 a0 8)), .inl 0] m4 h4 (zk0 fun m5 h5 =>
  kd h5 a0 = 4 ∧ zcal WP d n_Cd_tryMonths [.inr (.inr a0), .inl 0, .inl 0] m5 h5 (zk1 fun r6 m6 h6 =>
  (r6 ≠ 0 →
    kd h6 a0 = 4 ∧ zcal WP d n_Jn_fill [.inr (.inr (m6 a0 1)), .inl ((-1))] m6 h6 (zk0 fun m7 h7 =>
    q_Cd_solve_53 d a0 0 m7 h7 Q)) ∧
  (¬ (r6 ≠ 0) →
    ((0 : Int) = 0 ∨ (0 : Int) = 1) ∧ Q (some (.inl (0 : Int))) m6 h6))))) : q_Cd_solve_0 d a0 a1 a2 a3 m h Q := zvc_ok zc_Cd_solve zm_Cd_solve 50 (fun _ => rfl) H
set_option maxRecDepth 100000 in
set_option maxHeartbeats 8000000 in
theorem s_Cd_solve_53 (d : Nat) (a0 a4 : Int) (m : zM) (h : zH) (Q : zQ) (H :
  kd h a0 = 4 ∧ ((m a0 3) ≤ a4 →
    ((1 : Int) = 0 ∨ (1 : Int) = 1) ∧ Q (some (.inl (1 : Int))) m h) ∧
  (¬ ((m a0 3) ≤ a4) →
    kd h a0 = 4 ∧ kd h a0 = 4 ∧ kd h (m a0 2) = 101 ∧ (0 : Int) ≤ a4 ∧ a4 < ln h (m a0 2) ∧ kd h a0 = 4 ∧ kd h (m a0 9) = 101 ∧ (0 : Int) ≤ a4 ∧ a4 < ln h (m a0 9) ∧ kd h (m a0 1) = 101 ∧ 0 < (m a0 1) ∧ (0 : Int) ≤ (m (m a0 2) a4) ∧ (m (m a0 2) a4) < ln h (m a0 1) ∧ ∀ m1, m1 = zwr m (m a0 1) (m (m a0 2) a4) (m (m a0 9) a4) →
    q_Cd_solve_53 d a0 (w32 (a4 + 1)) m1 h Q)) : q_Cd_solve_53 d a0 a4 m h Q := zvc_ok zc_Cd_solve zm_Cd_solve 50 (fun _ => rfl) H
theorem e_Cd_solve (d : Nat) (a0 a1 a2 a3 : Int) (m : zM) (h : zH) (Q : zQ) (H : q_Cd_solve_0 d a0 a1 a2 a3 m h Q) : zcal WP (d + 1) n_Cd_solve [.inr (.inr a0), .inl a1, .inl a2, .inl a3] m h Q := zcal_mk rfl H
def zm_Cd_tryMonths : Nat → Option (List Bool) := fun pc => bif Nat.beq pc 12 then some [true, true, true, true, false, false] else (bif Nat.beq pc 93 then some [true, true, true, true, true, false] else (none))
abbrev q_Cd_tryMonths_0 (d : Nat) (a0 a1 a2 : Int) (m : zM) (h : zH) (Q : zQ) : Prop := WP d n_Cd_tryMonths 0 [some (.inr (.inr a0)), some (.inl a1), some (.inl a2), none, none, none] [] m h Q
abbrev q_Cd_tryMonths_12 (d : Nat) (a0 a1 a2 a3 : Int) (m : zM) (h : zH) (Q : zQ) : Prop := WP d n_Cd_tryMonths 12 [some (.inr (.inr a0)), some (.inl a1), some (.inl a2), some (.inl a3), none, none] [] m h Q
abbrev q_Cd_tryMonths_93 (d : Nat) (a0 a1 a2 a3 a4 s0 s1 s2 : Int) (m : zM) (h : zH) (Q : zQ) : Prop := WP d n_Cd_tryMonths 93 [some (.inr (.inr a0)), some (.inl a1), some (.inl a2), some (.inl a3), some (.inl a4), none] [.inl s0, .inl s1, .inr (.inr s2)] m h Q
set_option maxRecDepth 100000 in
set_option maxHeartbeats 8000000 in
theorem s_Cd_tryMonths_0 (d : Nat) (a0 a1 a2 : Int) (m : zM) (h : zH) (Q : zQ) (H :
  kd h a0 = 4 ∧ (a1 < (m a0 3) →
    q_Cd_tryMonths_12 d a0 a1 a2 0 m h Q) ∧
  (¬ (a1 < (m a0 3)) →
    ((1 : Int) = 0 ∨ (1 : Int) = 1) ∧ Q (some (.inl (1 : Int))) m h)) : q_Cd_tryMonths_0 d a0 a1 a2 m h Q := zvc_ok zc_Cd_tryMonths zm_Cd_tryMonths 71 (fun _ => rfl) H
set_option maxRecDepth 100000 in
set_option maxHeartbeats 8000000 in
theorem s_Cd_tryMonths_12 (d : Nat) (a0 a1 a2 a3 : Int) (m : zM) (h : zH) (Q : zQ) (H :
  kd h a0 = 4 ∧ ((m a0 10) ≤ a3 →
    ((0 : Int) = 0 ∨ (0 : Int) = 1) ∧ Q (some (.inl (0 : Int))) m h) ∧
  (¬ ((m a0 10) ≤ a3) →
    (a2 < a3 →
      ((0 : Int) = 0 ∨ (0 : Int) = 1) ∧ Q (some (.inl (0 : Int))) m h) ∧
    (¬ (a2 < a3) →
      kd h a0 = 4 ∧ kd h (m a0 8) = 101 ∧ (0 : Int) ≤ a3 ∧ a3 < ln h (m a0 8) ∧ zcal WP d n_Jn_bitCount [.inl (zor (m (m a0 8) a3) (zshl 1 a1))] m h (zk1 fun r1 m1 h1 =>
      kd h1 a0 = 4 ∧ ((m1 a0 11) < r1 →
        q_Cd_tryMonths_12 d a0 a1 a2 (w32 (a3 + 1)) m1 h1 Q) ∧
      (¬ ((m1 a0 11) < r1) →
        kd h1 a0 = 4 ∧ zcal WP d n_Cd_isEnoughWithout [.inr (.inr a0), .inl (zor (m (m a0 8) a3) (zshl 1 a1))] m1 h1 (zk1 fun r2 m2 h2 =>
        (r2 = 0 →
          q_Cd_tryMonths_12 d a0 a1 a2 (w32 (a3 + 1)) m2 h2 Q) ∧
        (¬ (r2 = 0) →
          kd h2 a0 = 4 ∧ kd h2 (m2 a0 9) = 101 ∧ 0 < (m2 a0 9) ∧ (0 : Int) ≤ a1 ∧ a1 < ln h2 (m2 a0 9) ∧ ∀ m3, m3 = zwr m2 (m2 a0 9) a1 a3 →
          kd h2 a0 = 4 ∧ kd h2 (m3 a0 8) = 101 ∧ 0 < (m3 a0 8) ∧ (0 : Int) ≤ a3 ∧ a3 < ln h2 (m3 a0 8) ∧ ∀ m4, m4 = zwr m3 (m3 a0 8) a3 (zor (m (m a0 8) a3) (zshl 1 a1)) →
          (a3 ≠ a2 →
            q_Cd_tryMonths_93 d a0 a1 a2 a3 (m (m a0 8) a3) a2 (w32 (a1 + 1)) a0 m4 h2 Q) ∧
          (¬ (a3 ≠ a2) →
            q_Cd_tryMonths_93 d a0 a1 a2 a3 (m (m a0 8) a3) (w32 (a2 + 1)) (w32 (a1 + 1)) a0 m4 h2 Q)))))))) : q_Cd_tryMonths_12 d a0 a1 a2 a3 m h Q := zvc_ok zc_Cd_tryMonths zm_Cd_tryMonths 71 (fun _ => rfl) H
set_option maxRecDepth 100000 in
set_option maxHeartbeats 8000000 in
theorem s_Cd_tryMonths_93 (d : Nat) (a0 a1 a2 a3 a4 s0 s1 s2 : Int) (m : zM) (h : zH) (Q : zQ) (H :
  kd h s2 = 4 ∧ zcal WP d n_Cd_tryMonths [.inr (.inr s2), .inl s1, .inl s0] m h (zk1 fun r1 m1 h1 =>
  (r1 = 0 →
    kd h1 a0 = 4 ∧ kd h1 (m1 a0 8) = 101 ∧ 0 < (m1 a0 8) ∧ (0 : Int) ≤ a3 ∧ a3 < ln h1 (m1 a0 8) ∧ ∀ m2, m2 = zwr m1 (m1 a0 8) a3 a4 →
    q_Cd_tryMonths_12 d a0 a1 a2 (w32 (a3 + 1)) m2 h1 Q) ∧
  (¬ (r1 = 0) →
    ((1 : Int) = 0 ∨ (1 : Int) = 1) ∧ Q (some (.inl (1 : Int))) m1 h1))) : q_Cd_tryMonths_93 d a0 a1 a2 a3 a4 s0 s1 s2 m h Q := zvc_ok zc_Cd_tryMonths zm_Cd_tryMonths 71 (fun _ => rfl) H
theorem e_Cd_tryMonths (d : Nat) (a0 a1 a2 : Int) (m : zM) (h : zH) (Q : zQ) (H : q_Cd_tryMonths_0 d a0 a1 a2 m h Q) : zcal WP (d + 1) n_Cd_tryMonths [.inr (.inr a0), .inl a1, .inl a2] m h Q := zcal_mk rfl H
def zm_Cd_isEnoughWithout : Nat → Option (List Bool) := fun pc => bif Nat.beq pc 28 then some [true, true] else (none)
abbrev q_Cd_isEnoughWithout_0 (d : Nat) (a0 a1 : Int) (m : zM) (h : zH) (Q : zQ) : Prop := WP d n_Cd_isEnoughWithout 0 [some (.inr (.inr a0)), some (.inl a1)] [] m h Q
abbrev q_Cd_isEnoughWithout_28 (d : Nat) (a0 a1 : Int) (m : zM) (h : zH) (Q : zQ) : Prop := WP d n_Cd_isEnoughWithout 28 [some (.inr (.inr a0)), some (.inl a1)] [] m h Q
set_option maxRecDepth 100000 in
set_option maxHeartbeats 8000000 in
theorem s_Cd_isEnoughWithout_0 (d : Nat) (a0 a1 : Int) (m : zM) (h : zH) (Q : zQ) (H :
  kd h a0 = 4 ∧ kd h (m a0 7) = 101 ∧ (0 : Int) ≤ a1 ∧ a1 < ln h (m a0 7) ∧ ((m (m a0 7) a1) ≠ 0 →
    q_Cd_isEnoughWithout_28 d a0 a1 m h Q) ∧
  (¬ ((m (m a0 7) a1) ≠ 0) →
    kd h a0 = 4 ∧ kd h a0 = 4 ∧ zcal WP d n_Cd_tryWithout [.inr (.inr a0), .inl a1] m h (zk1 fun r1 m1 h1 =>
    (r1 = 0 →
      kd h1 (m a0 7) = 101 ∧ 0 < (m a0 7) ∧ (0 : Int) ≤ a1 ∧ a1 < ln h1 (m a0 7) ∧ ∀ m2, m2 = zwr m1 (m a0 7) a1 2 →
      q_Cd_isEnoughWithout_28 d a0 a1 m2 h1 Q) ∧
    (¬ (r1 = 0) →
      kd h1 (m a0 7) = 101 ∧ 0 < (m a0 7) ∧ (0 : Int) ≤ a1 ∧ a1 < ln h1 (m a0 7) ∧ ∀ m2, m2 = zwr m1 (m a0 7) a1 1 →
      q_Cd_isEnoughWithout_28 d a0 a1 m2 h1 Q)))) : q_Cd_isEnoughWithout_0 d a0 a1 m h Q := zvc_ok zc_Cd_isEnoughWithout zm_Cd_isEnoughWithout 27 (fun _ => rfl) H
set_option maxRecDepth 100000 in
set_option maxHeartbeats 8000000 in
theorem s_Cd_isEnoughWithout_28 (d : Nat) (a0 a1 : Int) (m : zM) (h : zH) (Q : zQ) (H :
  kd h a0 = 4 ∧ kd h (m a0 7) = 101 ∧ (0 : Int) ≤ a1 ∧ a1 < ln h (m a0 7) ∧ ((m (m a0 7) a1) ≠ 1 →
    ((0 : Int) = 0 ∨ (0 : Int) = 1) ∧ Q (some (.inl (0 : Int))) m h) ∧
  (¬ ((m (m a0 7) a1) ≠ 1) →
    ((1 : Int) = 0 ∨ (1 : Int) = 1) ∧ Q (some (.inl (1 : Int))) m h)) : q_Cd_isEnoughWithout_28 d a0 a1 m h Q := zvc_ok zc_Cd_isEnoughWithout zm_Cd_isEnoughWithout 27 (fun _ => rfl) H
theorem e_Cd_isEnoughWithout (d : Nat) (a0 a1 : Int) (m : zM) (h : zH) (Q : zQ) (H : q_Cd_isEnoughWithout_0 d a0 a1 m h Q) : zcal WP (d + 1) n_Cd_isEnoughWithout [.inr (.inr a0), .inl a1] m h Q := zcal_mk rfl H
def zm_Cd_tryWithout : Nat → Option (List Bool) := fun pc => bif Nat.beq pc 4 then some [true, true, true, true] else (bif Nat.beq pc 35 then some [true, false, true, true] else (none))
abbrev q_Cd_tryWithout_0 (d : Nat) (a0 a1 : Int) (m : zM) (h : zH) (Q : zQ) : Prop := WP d n_Cd_tryWithout 0 [some (.inr (.inr a0)), some (.inl a1), none, none] [] m h Q
abbrev q_Cd_tryWithout_4 (d : Nat) (a0 a1 a2 a3 : Int) (m : zM) (h : zH) (Q : zQ) : Prop := WP d n_Cd_tryWithout 4 [some (.inr (.inr a0)), some (.inl a1), some (.inl a2), some (.inl a3)] [] m h Q
abbrev q_Cd_tryWithout_35 (d : Nat) (a0 a2 a3 : Int) (m : zM) (h : zH) (Q : zQ) : Prop := WP d n_Cd_tryWithout 35 [some (.inr (.inr a0)), none, some (.inl a2), some (.inl a3)] [] m h Q
set_option maxRecDepth 100000 in
set_option maxHeartbeats 8000000 in
theorem s_Cd_tryWithout_0 (d : Nat) (a0 a1 : Int) (m : zM) (h : zH) (Q : zQ) (H :
  q_Cd_tryWithout_4 d a0 a1 0 0 m h Q) : q_Cd_tryWithout_0 d a0 a1 m h Q := zvc_ok zc_Cd_tryWithout zm_Cd_tryWithout 53 (fun _ => rfl) H
set_option maxRecDepth 100000 in
set_option maxHeartbeats 8000000 in
theorem s_Cd_tryWithout_4 (d : Nat) (a0 a1 a2 a3 : Int) (m : zM) (h : zH) (Q : zQ) (H :
  kd h a0 = 4 ∧ ((m a0 3) ≤ a3 →
    q_Cd_tryWithout_35 d a0 a2 1 m h Q) ∧
  (¬ ((m a0 3) ≤ a3) →
    kd h a0 = 4 ∧ kd h (m a0 2) = 101 ∧ (0 : Int) ≤ a3 ∧ a3 < ln h (m a0 2) ∧ q_Cd_tryWithout_4 d a0 a1 (zor a2 (zshl (zand (zshr a1 a3) 1) (m (m a0 2) a3))) (w32 (a3 + 1)) m h Q)) : q_Cd_tryWithout_4 d a0 a1 a2 a3 m h Q := zvc_ok zc_Cd_tryWithout zm_Cd_tryWithout 53 (fun _ => rfl) H
set_option maxRecDepth 100000 in
set_option maxHeartbeats 8000000 in
theorem s_Cd_tryWithout_35 (d : Nat) (a0 a2 a3 : Int) (m : zM) (h : zH) (Q : zQ) (H :
  kd h a0 = 4 ∧ ((zshl 1 (m a0 5)) ≤ a3 →
    ((1 : Int) = 0 ∨ (1 : Int) = 1) ∧ Q (some (.inl (1 : Int))) m h) ∧
  (¬ ((zshl 1 (m a0 5)) ≤ a3) →
    kd h a0 = 4 ∧ kd h (m a0 6) = 101 ∧ (0 : Int) ≤ a3 ∧ a3 < ln h (m a0 6) ∧ zcal WP d n_Jn_bitCount [.inl (zand (m (m a0 6) a3) (zxor a2 ((-1))))] m h (zk1 fun r1 m1 h1 =>
    zcal WP d n_Jn_bitCount [.inl a3] m1 h1 (zk1 fun r2 m2 h2 =>
    kd h2 a0 = 4 ∧ ((w32 (r2 + (m2 a0 12))) ≤ r1 →
      q_Cd_tryWithout_35 d a0 a2 (w32 (a3 + 1)) m2 h2 Q) ∧
    (¬ ((w32 (r2 + (m2 a0 12))) ≤ r1) →
      ((0 : Int) = 0 ∨ (0 : Int) = 1) ∧ Q (some (.inl (0 : Int))) m2 h2))))) : q_Cd_tryWithout_35 d a0 a2 a3 m h Q := zvc_ok zc_Cd_tryWithout zm_Cd_tryWithout 53 (fun _ => rfl) H
theorem e_Cd_tryWithout (d : Nat) (a0 a1 : Int) (m : zM) (h : zH) (Q : zQ) (H : q_Cd_tryWithout_0 d a0 a1 m h Q) : zcal WP (d + 1) n_Cd_tryWithout [.inr (.inr a0), .inl a1] m h Q := zcal_mk rfl H
def zm_Du_init : Nat → Option (List Bool) := fun pc => none
abbrev q_Du_init_0 (d : Nat) (a0 : Int) (m : zM) (h : zH) (Q : zQ) : Prop := WP d n_Du_init 0 [some (.inr (.inr a0))] [] m h Q
set_option maxRecDepth 100000 in
set_option maxHeartbeats 8000000 in
theorem s_Du_init_0 (d : Nat) (a0 : Int) (m : zM) (h : zH) (Q : zQ) (H :
  0 < a0 ∧ (0 : Int) ≤ 12 ∧ 12 ≤ (100000 : Int) ∧ ∀ m1 h1, m1 = znm m h → h1 = znh h 101 12 12 →
  kd h1 a0 = 5 ∧ 0 < a0 ∧ ∀ m2, m2 = zwr m1 a0 0 (nx h) →
  kd h1 a0 = 5 ∧ 0 < a0 ∧ ∀ m3, m3 = zwr m2 a0 1 ((-1)) →
  (0 : Int) ≤ 8 ∧ 8 ≤ (100000 : Int) ∧ ∀ m4 h4, m4 = znm m3 h1 → h4 = znh h1 101 8 8 →
  kd h4 a0 = 5 ∧ 0 < a0 ∧ ∀ m5, m5 = zwr m4 a0 2 (nx h1) →
  (0 : Int) ≤ 8 ∧ 8 ≤ (100000 : Int) ∧ ∀ m6 h6, m6 = znm m5 h4 → h6 = znh h4 101 8 8 →
  kd h6 a0 = 5 ∧ 0 < a0 ∧ ∀ m7, m7 = zwr m6 a0 4 (nx h4) →
  (0 : Int) ≤ 72 ∧ 72 ≤ (100000 : Int) ∧ ∀ m8 h8, m8 = znm m7 h6 → h8 = znh h6 101 72 72 →
  kd h8 a0 = 5 ∧ 0 < a0 ∧ ∀ m9, m9 = zwr m8 a0 5 (nx h6) →
  (0 : Int) ≤ 256 ∧ 256 ≤ (100000 : Int) ∧ ∀ m10 h10, m10 = znm m9 h8 → h10 = znh h8 101 256 256 →
  kd h10 a0 = 5 ∧ 0 < a0 ∧ ∀ m11, m11 = zwr m10 a0 6 (nx h8) →
  (0 : Int) ≤ 512 ∧ 512 ≤ (100000 : Int) ∧ ∀ m12 h12, m12 = znm m11 h10 → h12 = znh h10 101 512 512 →
  kd h12 a0 = 5 ∧ 0 < a0 ∧ ∀ m13, m13 = zwr m12 a0 7 (nx h10) →
  kd h12 a0 = 5 ∧ zcal WP d n_Jn_fill [.inr (.inr (m13 a0 0)), .inl ((-1))] m13 h12 (zk0 fun m14 h14 =>
  Q none m14 h14)) : q_Du_init_0 d a0 m h Q := zvc_ok zc_Du_init zm_Du_init 35 (fun _ => rfl) H
theorem e_Du_init (d : Nat) (a0 : Int) (m : zM) (h : zH) (Q : zQ) (H : q_Du_init_0 d a0 m h Q) : zcal WP (d + 1) n_Du_init [.inr (.inr a0)] m h Q := zcal_mk rfl H
def zm_Du_ask : Nat → Option (List Bool) := fun pc => bif Nat.beq pc 16 then some [true, true, true, true, true] else (none)
abbrev q_Du_ask_0 (d : Nat) (a0 a1 a2 a3 : Int) (m : zM) (h : zH) (Q : zQ) : Prop := WP d n_Du_ask 0 [some (.inr (.inr a0)), some (.inr (.inr a1)), some (.inl a2), some (.inl a3), none] [] m h Q
abbrev q_Du_ask_16 (d : Nat) (a0 a1 a2 a3 a4 : Int) (m : zM) (h : zH) (Q : zQ) : Prop := WP d n_Du_ask 16 [some (.inr (.inr a0)), some (.inr (.inr a1)), some (.inl a2), some (.inl a3), some (.inl a4)] [] m h Q
set_option maxRecDepth 100000 in
set_option maxHeartbeats 8000000 in
theorem s_Du_ask_0 (d : Nat) (a0 a1 a2 a3 : Int) (m : zM) (h : zH) (Q : zQ) (H :
  kd h a1 = 2 ∧ kd h (m a1 10) = 3 ∧ zcal WP d n_Bk_openAt [.inr (.inr (m a1 10)), .inl a2] m h (zk0 fun m1 h1 =>
  kd h1 a0 = 5 ∧ 0 < a0 ∧ ∀ m2, m2 = zwr m1 a0 3 0 →
  q_Du_ask_16 d a0 a1 a2 a3 0 m2 h1 Q)) : q_Du_ask_0 d a0 a1 a2 a3 m h Q := zvc_ok zc_Du_ask zm_Du_ask 52 (fun _ => rfl) H
set_option maxRecDepth 100000 in
set_option maxHeartbeats 8000000 in
theorem s_Du_ask_16 (d : Nat) (a0 a1 a2 a3 a4 : Int) (m : zM) (h : zH) (Q : zQ) (H :
  kd h a1 = 2 ∧ ((m a1 7) ≤ a4 →
    Q none m h) ∧
  (¬ ((m a1 7) ≤ a4) →
    ((zand (zshr a3 a4) 1) = 0 →
      q_Du_ask_16 d a0 a1 a2 a3 (w32 (a4 + 1)) m h Q) ∧
    (¬ ((zand (zshr a3 a4) 1) = 0) →
      kd h a0 = 5 ∧ ((8 : Int) ≤ (m a0 3) →
        q_Du_ask_16 d a0 a1 a2 a3 (w32 (a4 + 1)) m h Q) ∧
      (¬ ((8 : Int) ≤ (m a0 3)) →
        kd h a0 = 5 ∧ kd h a0 = 5 ∧ kd h (m a0 2) = 101 ∧ 0 < (m a0 2) ∧ (0 : Int) ≤ (m a0 3) ∧ (m a0 3) < ln h (m a0 2) ∧ ∀ m1, m1 = zwr m (m a0 2) (m a0 3) a4 →
        kd h a0 = 5 ∧ kd h a0 = 5 ∧ kd h a1 = 2 ∧ kd h (m1 a1 6) = 121 ∧ (0 : Int) ≤ a4 ∧ a4 < ln h (m1 a1 6) ∧ kd h a0 = 5 ∧ zcal WP d n_Du_findAble [.inr (.inr a0), .inr (.inr a1), .inl a2, .inr (.inr (m1 (m1 a1 6) a4))] m1 h (zk1 fun r2 m2 h2 =>
        kd h2 (m1 a0 4) = 101 ∧ 0 < (m1 a0 4) ∧ (0 : Int) ≤ (m1 a0 3) ∧ (m1 a0 3) < ln h2 (m1 a0 4) ∧ ∀ m3, m3 = zwr m2 (m1 a0 4) (m1 a0 3) r2 →
        kd h2 a0 = 5 ∧ kd h2 a0 = 5 ∧ 0 < a0 ∧ ∀ m4, m4 = zwr m3 a0 3 (w32 ((m3 a0 3) + 1)) →
        q_Du_ask_16 d a0 a1 a2 a3 (w32 (a4 + 1)) m4 h2 Q))))) : q_Du_ask_16 d a0 a1 a2 a3 a4 m h Q := zvc_ok zc_Du_ask zm_Du_ask 52 (fun _ => rfl) H
theorem e_Du_ask (d : Nat) (a0 a1 a2 a3 : Int) (m : zM) (h : zH) (Q : zQ) (H : q_Du_ask_0 d a0 a1 a2 a3 m h Q) : zcal WP (d + 1) n_Du_ask [.inr (.inr a0), .inr (.inr a1), .inl a2, .inl a3] m h Q := zcal_mk rfl H
def zm_Du_findAble : Nat → Option (List Bool) := fun pc => bif Nat.beq pc 12 then some [true, true, true, true, true, true, true, false] else (none)
abbrev q_Du_findAble_0 (d : Nat) (a0 a1 a2 a3 : Int) (m : zM) (h : zH) (Q : zQ) : Prop := WP d n_Du_findAble 0 [some (.inr (.inr a0)), some (.inr (.inr a1)), some (.inl a2), some (.inr (.inr a3)), none, none, none, none] [] m h Q
abbrev q_Du_findAble_12 (d : Nat) (a0 a1 a2 a3 a4 a5 a6 : Int) (m : zM) (h : zH) (Q : zQ) : Prop := WP d n_Du_findAble 12 [some (.inr (.inr a0)), some (.inr (.inr a1)), some (.inl a2), some (.inr (.inr a3)), some (.inr (.inr a4)), some (.inl a5), some (.inl a6), none] [] m h Q
set_option maxRecDepth 100000 in
set_option maxHeartbeats 8000000 in
theorem s_Du_findAble_0 (d : Nat) (a0 a1 a2 a3 : Int) (m : zM) (h : zH) (Q : zQ) (H :
  kd h a1 = 2 ∧ q_Du_findAble_12 d a0 a1 a2 a3 (m a1 10) 0 0 m h Q) : q_Du_findAble_0 d a0 a1 a2 a3 m h Q := zvc_ok zc_Du_findAble zm_Du_findAble 60 (fun _ => rfl) H
set_option maxRecDepth 100000 in
set_option maxHeartbeats 8000000 in
theorem s_Du_findAble_12 (d : Nat) (a0 a1 a2 a3 a4 a5 a6 : Int) (m : zM) (h : zH) (Q : zQ) (H :
  kd h a1 = 2 ∧ ((m a1 3) ≤ a6 →
    Q (some (.inl a5)) m h) ∧
  (¬ ((m a1 3) ≤ a6) →
    kd h a1 = 2 ∧ kd h (m a1 2) = 116 ∧ (0 : Int) ≤ a6 ∧ a6 < ln h (m a1 2) ∧ kd h (m (m a1 2) a6) = 6 ∧ zcal WP d n_En_isSound [.inr (.inr (m (m a1 2) a6))] m h (zk1 fun r1 m1 h1 =>
    (r1 = 0 →
      q_Du_findAble_12 d a0 a1 a2 a3 a4 a5 (w32 (a6 + 1)) m1 h1 Q) ∧
    (¬ (r1 = 0) →
      kd h1 (m (m a1 2) a6) = 6 ∧ kd h1 a3 = 11 ∧ ((m1 (m (m a1 2) a6) 2) ≠ (m1 a3 0) →
        q_Du_findAble_12 d a0 a1 a2 a3 a4 a5 (w32 (a6 + 1)) m1 h1 Q) ∧
      (¬ ((m1 (m (m a1 2) a6) 2) ≠ (m1 a3 0)) →
        kd h1 a4 = 3 ∧ zcal WP d n_Bk_lookAt [.inr (.inr a4), .inr (.inr (m (m a1 2) a6)), .inl a2, .inr (.inr a3)] m1 h1 (zk0 fun m2 h2 =>
        kd h2 a4 = 3 ∧ zcal WP d n_Bk_firstHolding [.inr (.inr a4), .inl 0] m2 h2 (zk1 fun r3 m3 h3 =>
        (r3 ≠ ((-1)) →
          q_Du_findAble_12 d a0 a1 a2 a3 a4 a5 (w32 (a6 + 1)) m3 h3 Q) ∧
        (¬ (r3 ≠ ((-1))) →
          kd h3 a0 = 5 ∧ kd h3 a0 = 5 ∧ kd h3 a4 = 3 ∧ zcal WP d n_Bk_firstHolding [.inr (.inr a4), .inl 4] m3 h3 (zk1 fun r4 m4 h4 =>
          kd h4 a4 = 3 ∧ zcal WP d n_Bk_amount [.inr (.inr a4), .inl r4, .inl 9999] m4 h4 (zk1 fun r5 m5 h5 =>
          kd h5 (m3 a0 5) = 101 ∧ 0 < (m3 a0 5) ∧ (0 : Int) ≤ (w32 ((w32 ((m3 a0 3) * 9)) + a6)) ∧ (w32 ((w32 ((m3 a0 3) * 9)) + a6)) < ln h5 (m3 a0 5) ∧ ∀ m6, m6 = zwr m5 (m3 a0 5) (w32 ((w32 ((m3 a0 3) * 9)) + a6)) r5 →
          q_Du_findAble_12 d a0 a1 a2 a3 a4 (zor a5 (zshl 1 a6)) (w32 (a6 + 1)) m6 h5 Q)))))))))) : q_Du_findAble_12 d a0 a1 a2 a3 a4 a5 a6 m h Q := zvc_ok zc_Du_findAble zm_Du_findAble 60 (fun _ => rfl) H
theorem e_Du_findAble (d : Nat) (a0 a1 a2 a3 : Int) (m : zM) (h : zH) (Q : zQ) (H : q_Du_findAble_0 d a0 a1 a2 a3 m h Q) : zcal WP (d + 1) n_Du_findAble [.inr (.inr a0), .inr (.inr a1), .inl a2, .inr (.inr a3)] m h Q := zcal_mk rfl H
def zm_Du_solve : Nat → Option (List Bool) := fun pc => bif Nat.beq pc 39 then some [true, false, true, true] else (none)
abbrev q_Du_solve_0 (d : Nat) (a0 a1 : Int) (m : zM) (h : zH) (Q : zQ) : Prop := WP d n_Du_solve 0 [some (.inr (.inr a0)), some (.inl a1), none, none] [] m h Q
abbrev q_Du_solve_39 (d : Nat) (a0 a2 a3 : Int) (m : zM) (h : zH) (Q : zQ) : Prop := WP d n_Du_solve 39 [some (.inr (.inr a0)), none, some (.inl a2), some (.inl a3)] [] m h Q
set_option maxRecDepth 100000 in
set_option maxHeartbeats 8000000 in
theorem s_Du_solve_0 (d : Nat) (a0 a1 : Int) (m : zM) (h : zH) (Q : zQ) (H :
  kd h a0 = 5 ∧ zcal WP d n_Jn_fill [.inr (.inr (m a0 0)), .inl ((-1))] m h (zk0 fun m1 h1 =>
  kd h1 a0 = 5 ∧ kd h1 a0 = 5 ∧ kd h1 a0 = 5 ∧ zcal WP d n_Es_uniteSets [.inr (.inr (m1 a0 4)), .inl (m1 a0 3), .inr (.inr (m1 a0 6))] m1 h1 (zk0 fun m2 h2 =>
  kd h2 a0 = 5 ∧ zcal WP d n_Du_findLack [.inr (.inr a0)] m2 h2 (zk1 fun r3 m3 h3 =>
  kd h3 a0 = 5 ∧ 0 < a0 ∧ ∀ m4, m4 = zwr m3 a0 1 0 →
  (r3 = 0 →
    kd h3 a0 = 5 ∧ zcal WP d n_Du_reckonLeast [.inr (.inr a0), .inl a1] m4 h3 (zk0 fun m5 h5 =>
    kd h5 a0 = 5 ∧ zcal WP d n_Du_choose [.inr (.inr a0), .inl a1] m5 h5 (zk0 fun m6 h6 =>
    kd h6 a0 = 5 ∧ kd h6 (m6 a0 7) = 101 ∧ (0 : Int) ≤ 0 ∧ 0 < ln h6 (m6 a0 7) ∧ Q (some (.inl (m6 (m6 a0 7) 0))) m6 h6))) ∧
  (¬ (r3 = 0) →
    q_Du_solve_39 d a0 r3 0 m4 h3 Q))))) : q_Du_solve_0 d a0 a1 m h Q := zvc_ok zc_Du_solve zm_Du_solve 56 (fun _ => rfl) H
set_option maxRecDepth 100000 in
set_option maxHeartbeats 8000000 in
theorem s_Du_solve_39 (d : Nat) (a0 a2 a3 : Int) (m : zM) (h : zH) (Q : zQ) (H :
  kd h a0 = 5 ∧ ((m a0 3) ≤ a3 →
    Q (some (.inl ((-2)))) m h) ∧
  (¬ ((m a0 3) ≤ a3) →
    kd h a0 = 5 ∧ kd h a0 = 5 ∧ kd h (m a0 2) = 101 ∧ (0 : Int) ≤ a3 ∧ a3 < ln h (m a0 2) ∧ kd h a0 = 5 ∧ 0 < a0 ∧ ∀ m1, m1 = zwr m a0 1 (zor (m a0 1) (zshl (zand (zshr a2 a3) 1) (m (m a0 2) a3))) →
    q_Du_solve_39 d a0 a2 (w32 (a3 + 1)) m1 h Q)) : q_Du_solve_39 d a0 a2 a3 m h Q := zvc_ok zc_Du_solve zm_Du_solve 56 (fun _ => rfl) H
theorem e_Du_solve (d : Nat) (a0 a1 : Int) (m : zM) (h : zH) (Q : zQ) (H : q_Du_solve_0 d a0 a1 m h Q) : zcal WP (d + 1) n_Du_solve [.inr (.inr a0), .inl a1] m h Q := zcal_mk rfl H
def zm_Du_findLack : Nat → Option (List Bool) := fun pc => bif Nat.beq pc 4 then some [true, true, true, false, false] else (none)
abbrev q_Du_findLack_0 (d : Nat) (a0 : Int) (m : zM) (h : zH) (Q : zQ) : Prop := WP d n_Du_findLack 0 [some (.inr (.inr a0)), none, none, none, none] [] m h Q
abbrev q_Du_findLack_4 (d : Nat) (a0 a1 a2 : Int) (m : zM) (h : zH) (Q : zQ) : Prop := WP d n_Du_findLack 4 [some (.inr (.inr a0)), some (.inl a1), some (.inl a2), none, none] [] m h Q
set_option maxRecDepth 100000 in
set_option maxHeartbeats 8000000 in
theorem s_Du_findLack_0 (d : Nat) (a0 : Int) (m : zM) (h : zH) (Q : zQ) (H :
  q_Du_findLack_4 d a0 0 1 m h Q) : q_Du_findLack_0 d a0 m h Q := zvc_ok zc_Du_findLack zm_Du_findLack 42 (fun _ => rfl) H
set_option maxRecDepth 100000 in
set_option maxHeartbeats 8000000 in
theorem s_Du_findLack_4 (d : Nat) (a0 a1 a2 : Int) (m : zM) (h : zH) (Q : zQ) (H :
  kd h a0 = 5 ∧ ((zshl 1 (m a0 3)) ≤ a2 →
    Q (some (.inl a1)) m h) ∧
  (¬ ((zshl 1 (m a0 3)) ≤ a2) →
    zcal WP d n_Jn_bitCount [.inl a2] m h (zk1 fun r1 m1 h1 =>
    kd h1 a0 = 5 ∧ kd h1 (m1 a0 6) = 101 ∧ (0 : Int) ≤ a2 ∧ a2 < ln h1 (m1 a0 6) ∧ zcal WP d n_Jn_bitCount [.inl (m1 (m1 a0 6) a2)] m1 h1 (zk1 fun r2 m2 h2 =>
    (r1 ≤ r2 →
      q_Du_findLack_4 d a0 a1 (w32 (a2 + 1)) m2 h2 Q) ∧
    (¬ (r1 ≤ r2) →
      zcal WP d n_Jn_bitCount [.inl a1] m2 h2 (zk1 fun r3 m3 h3 =>
      (a1 = 0 →
        q_Du_findLack_4 d a0 a2 (w32 (a2 + 1)) m3 h3 Q) ∧
      (¬ (a1 = 0) →
        (r1 < r3 →
          q_Du_findLack_4 d a0 a2 (w32 (a2 + 1)) m3 h3 Q) ∧
        (¬ (r1 < r3) →
          (r1 ≠ r3 →
            q_Du_findLack_4 d a0 a1 (w32 (a2 + 1)) m3 h3 Q) ∧
          (¬ (r1 ≠ r3) →
            zcal WP d n_Es_isAhead [.inl a2, .inl a1] m3 h3 (zk1 fun r4 m4 h4 =>
            (r4 = 0 →
              q_Du_findLack_4 d a0 a1 (w32 (a2 + 1)) m4 h4 Q) ∧
            (¬ (r4 = 0) →
              q_Du_findLack_4 d a0 a2 (w32 (a2 + 1)) m4 h4 Q))))))))))) : q_Du_findLack_4 d a0 a1 a2 m h Q := zvc_ok zc_Du_findLack zm_Du_findLack 42 (fun _ => rfl) H
theorem e_Du_findLack (d : Nat) (a0 : Int) (m : zM) (h : zH) (Q : zQ) (H : q_Du_findLack_0 d a0 m h Q) : zcal WP (d + 1) n_Du_findLack [.inr (.inr a0)] m h Q := zcal_mk rfl H
def zm_Du_reckonLeast : Nat → Option (List Bool) := fun pc => bif Nat.beq pc 16 then some [true, true, true, true, false, false, false, false] else (bif Nat.beq pc 85 then some [true, true, true, true, true, true, true, true] else (none))
abbrev q_Du_reckonLeast_0 (d : Nat) (a0 a1 : Int) (m : zM) (h : zH) (Q : zQ) : Prop := WP d n_Du_reckonLeast 0 [some (.inr (.inr a0)), some (.inl a1), none, none, none, none, none, none] [] m h Q
abbrev q_Du_reckonLeast_16 (d : Nat) (a0 a1 a2 a3 : Int) (m : zM) (h : zH) (Q : zQ) : Prop := WP d n_Du_reckonLeast 16 [some (.inr (.inr a0)), some (.inl a1), some (.inl a2), some (.inl a3), none, none, none, none] [] m h Q
abbrev q_Du_reckonLeast_85 (d : Nat) (a0 a1 a2 a3 a4 a5 a6 a7 : Int) (m : zM) (h : zH) (Q : zQ) : Prop := WP d n_Du_reckonLeast 85 [some (.inr (.inr a0)), some (.inl a1), some (.inl a2), some (.inl a3), some (.inl a4), some (.inl a5), some (.inl a6), some (.inl a7)] [] m h Q
set_option maxRecDepth 100000 in
set_option maxHeartbeats 8000000 in
theorem s_Du_reckonLeast_0 (d : Nat) (a0 a1 : Int) (m : zM) (h : zH) (Q : zQ) (H :
  kd h a0 = 5 ∧ kd h a0 = 5 ∧ kd h (m a0 6) = 101 ∧ (0 : Int) ≤ (w32 ((zshl 1 (m a0 3)) - 1)) ∧ (w32 ((zshl 1 (m a0 3)) - 1)) < ln h (m a0 6) ∧ q_Du_reckonLeast_16 d a0 a1 (m (m a0 6) (w32 ((zshl 1 (m a0 3)) - 1))) (m (m a0 6) (w32 ((zshl 1 (m a0 3)) - 1))) m h Q) : q_Du_reckonLeast_0 d a0 a1 m h Q := zvc_ok zc_Du_reckonLeast zm_Du_reckonLeast 79 (fun _ => rfl) H
set_option maxRecDepth 100000 in
set_option maxHeartbeats 8000000 in
theorem s_Du_reckonLeast_16 (d : Nat) (a0 a1 a2 a3 : Int) (m : zM) (h : zH) (Q : zQ) (H :
  (a3 < 0 →
    Q none m h) ∧
  (¬ (a3 < 0) →
    zcal WP d n_Jn_bitCount [.inl a3] m h (zk1 fun r1 m1 h1 =>
    kd h1 a0 = 5 ∧ ((m1 a0 3) < r1 →
      q_Du_reckonLeast_16 d a0 a1 a2 (w32 (a3 + (-1))) m1 h1 Q) ∧
    (¬ ((m1 a0 3) < r1) →
      ((zand a3 (zxor a2 ((-1)))) = 0 →
        kd h1 a0 = 5 ∧ (r1 ≠ (m1 a0 3) →
          kd h1 a0 = 5 ∧ kd h1 (m1 a0 4) = 101 ∧ (0 : Int) ≤ r1 ∧ r1 < ln h1 (m1 a0 4) ∧ q_Du_reckonLeast_85 d a0 a1 a2 a3 r1 (zand (m1 (m1 a0 4) r1) (zxor a3 ((-1)))) 536870912 0 m1 h1 Q) ∧
        (¬ (r1 ≠ (m1 a0 3)) →
          kd h1 a0 = 5 ∧ kd h1 (m1 a0 7) = 101 ∧ 0 < (m1 a0 7) ∧ (0 : Int) ≤ a3 ∧ a3 < ln h1 (m1 a0 7) ∧ ∀ m2, m2 = zwr m1 (m1 a0 7) a3 0 →
          q_Du_reckonLeast_16 d a0 a1 a2 (w32 (a3 + (-1))) m2 h1 Q)) ∧
      (¬ ((zand a3 (zxor a2 ((-1)))) = 0) →
        q_Du_reckonLeast_16 d a0 a1 a2 (w32 (a3 + (-1))) m1 h1 Q))))) : q_Du_reckonLeast_16 d a0 a1 a2 a3 m h Q := zvc_ok zc_Du_reckonLeast zm_Du_reckonLeast 79 (fun _ => rfl) H
set_option maxRecDepth 100000 in
set_option maxHeartbeats 8000000 in
theorem s_Du_reckonLeast_85 (d : Nat) (a0 a1 a2 a3 a4 a5 a6 a7 : Int) (m : zM) (h : zH) (Q : zQ) (H :
  (a1 ≤ a7 →
    kd h a0 = 5 ∧ kd h (m a0 7) = 101 ∧ 0 < (m a0 7) ∧ (0 : Int) ≤ a3 ∧ a3 < ln h (m a0 7) ∧ ∀ m1, m1 = zwr m (m a0 7) a3 a6 →
    q_Du_reckonLeast_16 d a0 a1 a2 (w32 (a3 + (-1))) m1 h Q) ∧
  (¬ (a1 ≤ a7) →
    ((zand (zshr a5 a7) 1) = 0 →
      q_Du_reckonLeast_85 d a0 a1 a2 a3 a4 a5 a6 (w32 (a7 + 1)) m h Q) ∧
    (¬ ((zand (zshr a5 a7) 1) = 0) →
      kd h a0 = 5 ∧ zcal WP d n_Du_priceWith [.inr (.inr a0), .inl a4, .inl a7, .inl a3] m h (zk1 fun r1 m1 h1 =>
      q_Du_reckonLeast_85 d a0 a1 a2 a3 a4 a5 (min a6 r1) (w32 (a7 + 1)) m1 h1 Q)))) : q_Du_reckonLeast_85 d a0 a1 a2 a3 a4 a5 a6 a7 m h Q := zvc_ok zc_Du_reckonLeast zm_Du_reckonLeast 79 (fun _ => rfl) H
theorem e_Du_reckonLeast (d : Nat) (a0 a1 : Int) (m : zM) (h : zH) (Q : zQ) (H : q_Du_reckonLeast_0 d a0 a1 m h Q) : zcal WP (d + 1) n_Du_reckonLeast [.inr (.inr a0), .inl a1] m h Q := zcal_mk rfl H
def zm_Du_priceWith : Nat → Option (List Bool) := fun pc => none
abbrev q_Du_priceWith_0 (d : Nat) (a0 a1 a2 a3 : Int) (m : zM) (h : zH) (Q : zQ) : Prop := WP d n_Du_priceWith 0 [some (.inr (.inr a0)), some (.inl a1), some (.inl a2), some (.inl a3)] [] m h Q
set_option maxRecDepth 100000 in
set_option maxHeartbeats 8000000 in
theorem s_Du_priceWith_0 (d : Nat) (a0 a1 a2 a3 : Int) (m : zM) (h : zH) (Q : zQ) (H :
  kd h a0 = 5 ∧ kd h (m a0 5) = 101 ∧ (0 : Int) ≤ (w32 ((w32 (a1 * 9)) + a2)) ∧ (w32 ((w32 (a1 * 9)) + a2)) < ln h (m a0 5) ∧ kd h a0 = 5 ∧ kd h (m a0 7) = 101 ∧ (0 : Int) ≤ (zor a3 (zshl 1 a2)) ∧ (zor a3 (zshl 1 a2)) < ln h (m a0 7) ∧ Q (some (.inl (min 536870912 (w32 ((m (m a0 5) (w32 ((w32 (a1 * 9)) + a2))) + (m (m a0 7) (zor a3 (zshl 1 a2)))))))) m h) : q_Du_priceWith_0 d a0 a1 a2 a3 m h Q := zvc_ok zc_Du_priceWith zm_Du_priceWith 21 (fun _ => rfl) H
theorem e_Du_priceWith (d : Nat) (a0 a1 a2 a3 : Int) (m : zM) (h : zH) (Q : zQ) (H : q_Du_priceWith_0 d a0 a1 a2 a3 m h Q) : zcal WP (d + 1) n_Du_priceWith [.inr (.inr a0), .inl a1, .inl a2, .inl a3] m h Q := zcal_mk rfl H
def zm_Du_choose : Nat → Option (List Bool) := fun pc => bif Nat.beq pc 4 then some [true, true, true, true, false, false] else (bif Nat.beq pc 27 then some [true, true, true, true, true, true] else (none))
abbrev q_Du_choose_0 (d : Nat) (a0 a1 : Int) (m : zM) (h : zH) (Q : zQ) : Prop := WP d n_Du_choose 0 [some (.inr (.inr a0)), some (.inl a1), none, none, none, none] [] m h Q
abbrev q_Du_choose_4 (d : Nat) (a0 a1 a2 a3 : Int) (m : zM) (h : zH) (Q : zQ) : Prop := WP d n_Du_choose 4 [some (.inr (.inr a0)), some (.inl a1), some (.inl a2), some (.inl a3), none, none] [] m h Q
abbrev q_Du_choose_27 (d : Nat) (a0 a1 a2 a3 a4 a5 : Int) (m : zM) (h : zH) (Q : zQ) : Prop := WP d n_Du_choose 27 [some (.inr (.inr a0)), some (.inl a1), some (.inl a2), some (.inl a3), some (.inl a4), some (.inl a5)] [] m h Q
set_option maxRecDepth 100000 in
set_option maxHeartbeats 8000000 in
theorem s_Du_choose_0 (d : Nat) (a0 a1 : Int) (m : zM) (h : zH) (Q : zQ) (H :
  q_Du_choose_4 d a0 a1 0 0 m h Q) : q_Du_choose_0 d a0 a1 m h Q := zvc_ok zc_Du_choose zm_Du_choose 59 (fun _ => rfl) H
set_option maxRecDepth 100000 in
set_option maxHeartbeats 8000000 in
theorem s_Du_choose_4 (d : Nat) (a0 a1 a2 a3 : Int) (m : zM) (h : zH) (Q : zQ) (H :
  kd h a0 = 5 ∧ ((m a0 3) ≤ a3 →
    Q none m h) ∧
  (¬ ((m a0 3) ≤ a3) →
    kd h a0 = 5 ∧ kd h (m a0 4) = 101 ∧ (0 : Int) ≤ a3 ∧ a3 < ln h (m a0 4) ∧ q_Du_choose_27 d a0 a1 a2 a3 (zand (m (m a0 4) a3) (zxor a2 ((-1)))) 0 m h Q)) : q_Du_choose_4 d a0 a1 a2 a3 m h Q := zvc_ok zc_Du_choose zm_Du_choose 59 (fun _ => rfl) H
set_option maxRecDepth 100000 in
set_option maxHeartbeats 8000000 in
theorem s_Du_choose_27 (d : Nat) (a0 a1 a2 a3 a4 a5 : Int) (m : zM) (h : zH) (Q : zQ) (H :
  (a1 ≤ a5 →
    q_Du_choose_4 d a0 a1 a2 (w32 (a3 + 1)) m h Q) ∧
  (¬ (a1 ≤ a5) →
    ((zand (zshr a4 a5) 1) = 0 →
      q_Du_choose_27 d a0 a1 a2 a3 a4 (w32 (a5 + 1)) m h Q) ∧
    (¬ ((zand (zshr a4 a5) 1) = 0) →
      kd h a0 = 5 ∧ zcal WP d n_Du_priceWith [.inr (.inr a0), .inl a3, .inl a5, .inl a2] m h (zk1 fun r1 m1 h1 =>
      kd h1 a0 = 5 ∧ kd h1 (m1 a0 7) = 101 ∧ (0 : Int) ≤ a2 ∧ a2 < ln h1 (m1 a0 7) ∧ (r1 ≠ (m1 (m1 a0 7) a2) →
        q_Du_choose_27 d a0 a1 a2 a3 a4 (w32 (a5 + 1)) m1 h1 Q) ∧
      (¬ (r1 ≠ (m1 (m1 a0 7) a2)) →
        kd h1 a0 = 5 ∧ kd h1 a0 = 5 ∧ kd h1 (m1 a0 2) = 101 ∧ (0 : Int) ≤ a3 ∧ a3 < ln h1 (m1 a0 2) ∧ kd h1 (m1 a0 0) = 101 ∧ 0 < (m1 a0 0) ∧ (0 : Int) ≤ (m1 (m1 a0 2) a3) ∧ (m1 (m1 a0 2) a3) < ln h1 (m1 a0 0) ∧ ∀ m2, m2 = zwr m1 (m1 a0 0) (m1 (m1 a0 2) a3) a5 →
        q_Du_choose_4 d a0 a1 (zor a2 (zshl 1 a5)) (w32 (a3 + 1)) m2 h1 Q))))) : q_Du_choose_27 d a0 a1 a2 a3 a4 a5 m h Q := zvc_ok zc_Du_choose zm_Du_choose 59 (fun _ => rfl) H
theorem e_Du_choose (d : Nat) (a0 a1 : Int) (m : zM) (h : zH) (Q : zQ) (H : q_Du_choose_0 d a0 a1 m h Q) : zcal WP (d + 1) n_Du_choose [.inr (.inr a0), .inl a1] m h Q := zcal_mk rfl H
def zm_En_init : Nat → Option (List Bool) := fun pc => none
abbrev q_En_init_0 (d : Nat) (a0 a1 a2 : Int) (m : zM) (h : zH) (Q : zQ) : Prop := WP d n_En_init 0 [some (.inr (.inr a0)), some (.inl a1), some (.inl a2)] [] m h Q
set_option maxRecDepth 100000 in
set_option maxHeartbeats 8000000 in
theorem s_En_init_0 (d : Nat) (a0 a1 a2 : Int) (m : zM) (h : zH) (Q : zQ) (H :
  0 < a0 ∧ kd h a0 = 6 ∧ 0 < a0 ∧ ∀ m1, m1 = zwr m a0 0 a1 →
  kd h a0 = 6 ∧ 0 < a0 ∧ ∀ m2, m2 = zwr m1 a0 1 a2 →
  Q none m2 h) : q_En_init_0 d a0 a1 a2 m h Q := zvc_ok zc_En_init zm_En_init 10 (fun _ => rfl) H
theorem e_En_init (d : Nat) (a0 a1 a2 : Int) (m : zM) (h : zH) (Q : zQ) (H : q_En_init_0 d a0 a1 a2 m h Q) : zcal WP (d + 1) n_En_init [.inr (.inr a0), .inl a1, .inl a2] m h Q := zcal_mk rfl H
def zm_En_startAnew : Nat → Option (List Bool) := fun pc => none
abbrev q_En_startAnew_0 (d : Nat) (a0 : Int) (m : zM) (h : zH) (Q : zQ) : Prop := WP d n_En_startAnew 0 [some (.inr (.inr a0))] [] m h Q
set_option maxRecDepth 100000 in
set_option maxHeartbeats 8000000 in
theorem s_En_startAnew_0 (d : Nat) (a0 : Int) (m : zM) (h : zH) (Q : zQ) (H :
  kd h a0 = 6 ∧ kd h a0 = 6 ∧ 0 < a0 ∧ ∀ m1, m1 = zwr m a0 2 (m a0 1) →
  kd h a0 = 6 ∧ kd h a0 = 6 ∧ 0 < a0 ∧ ∀ m2, m2 = zwr m1 a0 3 (m1 a0 1) →
  ((0 : Int) = 0 ∨ (0 : Int) = 1) ∧ kd h a0 = 6 ∧ 0 < a0 ∧ ∀ m3, m3 = zwr m2 a0 4 0 →
  kd h a0 = 6 ∧ 0 < a0 ∧ ∀ m4, m4 = zwr m3 a0 5 ((-1)) →
  kd h a0 = 6 ∧ 0 < a0 ∧ ∀ m5, m5 = zwr m4 a0 6 0 →
  kd h a0 = 6 ∧ 0 < a0 ∧ ∀ m6, m6 = zwr m5 a0 7 0 →
  kd h a0 = 6 ∧ 0 < a0 ∧ ∀ m7, m7 = zwr m6 a0 8 0 →
  kd h a0 = 6 ∧ 0 < a0 ∧ ∀ m8, m8 = zwr m7 a0 9 0 →
  kd h a0 = 6 ∧ 0 < a0 ∧ ∀ m9, m9 = zwr m8 a0 10 ((-1)) →
  Q none m9 h) : q_En_startAnew_0 d a0 m h Q := zvc_ok zc_En_startAnew zm_En_startAnew 31 (fun _ => rfl) H
theorem e_En_startAnew (d : Nat) (a0 : Int) (m : zM) (h : zH) (Q : zQ) (H : q_En_startAnew_0 d a0 m h Q) : zcal WP (d + 1) n_En_startAnew [.inr (.inr a0)] m h Q := zcal_mk rfl H
def zm_En_startDay : Nat → Option (List Bool) := fun pc => none
abbrev q_En_startDay_0 (d : Nat) (a0 a1 : Int) (m : zM) (h : zH) (Q : zQ) : Prop := WP d n_En_startDay 0 [some (.inr (.inr a0)), some (.inl a1)] [] m h Q
set_option maxRecDepth 100000 in
set_option maxHeartbeats 8000000 in
theorem s_En_startDay_0 (d : Nat) (a0 a1 : Int) (m : zM) (h : zH) (Q : zQ) (H :
  kd h a0 = 6 ∧ ((m a0 10) ≠ a1 →
    kd h a0 = 6 ∧ 0 < a0 ∧ ∀ m1, m1 = zwr m a0 10 a1 →
    ((0 : Int) = 0 ∨ (0 : Int) = 1) ∧ kd h a0 = 6 ∧ 0 < a0 ∧ ∀ m2, m2 = zwr m1 a0 11 0 →
    kd h a0 = 6 ∧ 0 < a0 ∧ ∀ m3, m3 = zwr m2 a0 13 0 →
    kd h a0 = 6 ∧ 0 < a0 ∧ ∀ m4, m4 = zwr m3 a0 14 0 →
    kd h a0 = 6 ∧ ((m4 a0 5) = ((-1)) →
      Q none m4 h) ∧
    (¬ ((m4 a0 5) = ((-1))) →
      kd h a0 = 6 ∧ (a1 < (m4 a0 5) →
        Q none m4 h) ∧
      (¬ (a1 < (m4 a0 5)) →
        kd h a0 = 6 ∧ kd h a0 = 6 ∧ 0 < a0 ∧ ∀ m5, m5 = zwr m4 a0 2 (m4 a0 1) →
        kd h a0 = 6 ∧ 0 < a0 ∧ ∀ m6, m6 = zwr m5 a0 6 0 →
        kd h a0 = 6 ∧ 0 < a0 ∧ ∀ m7, m7 = zwr m6 a0 7 0 →
        kd h a0 = 6 ∧ kd h a0 = 6 ∧ 0 < a0 ∧ ∀ m8, m8 = zwr m7 a0 8 (m7 a0 5) →
        kd h a0 = 6 ∧ kd h a0 = 6 ∧ 0 < a0 ∧ ∀ m9, m9 = zwr m8 a0 9 (m8 a0 5) →
        kd h a0 = 6 ∧ 0 < a0 ∧ ∀ m10, m10 = zwr m9 a0 5 ((-1)) →
        Q none m10 h))) ∧
  (¬ ((m a0 10) ≠ a1) →
    Q none m h)) : q_En_startDay_0 d a0 a1 m h Q := zvc_ok zc_En_startDay zm_En_startDay 48 (fun _ => rfl) H
theorem e_En_startDay (d : Nat) (a0 a1 : Int) (m : zM) (h : zH) (Q : zQ) (H : q_En_startDay_0 d a0 a1 m h Q) : zcal WP (d + 1) n_En_startDay [.inr (.inr a0), .inl a1] m h Q := zcal_mk rfl H
def zm_En_isInShops : Nat → Option (List Bool) := fun pc => none
abbrev q_En_isInShops_0 (d : Nat) (a0 : Int) (m : zM) (h : zH) (Q : zQ) : Prop := WP d n_En_isInShops 0 [some (.inr (.inr a0))] [] m h Q
set_option maxRecDepth 100000 in
set_option maxHeartbeats 8000000 in
theorem s_En_isInShops_0 (d : Nat) (a0 : Int) (m : zM) (h : zH) (Q : zQ) (H :
  kd h a0 = 6 ∧ ((m a0 5) = ((-1)) →
    ((0 : Int) = 0 ∨ (0 : Int) = 1) ∧ Q (some (.inl (0 : Int))) m h) ∧
  (¬ ((m a0 5) = ((-1))) →
    ((1 : Int) = 0 ∨ (1 : Int) = 1) ∧ Q (some (.inl (1 : Int))) m h)) : q_En_isInShops_0 d a0 m h Q := zvc_ok zc_En_isInShops zm_En_isInShops 9 (fun _ => rfl) H
theorem e_En_isInShops (d : Nat) (a0 : Int) (m : zM) (h : zH) (Q : zQ) (H : q_En_isInShops_0 d a0 m h Q) : zcal WP (d + 1) n_En_isInShops [.inr (.inr a0)] m h Q := zcal_mk rfl H
def zm_En_isSound : Nat → Option (List Bool) := fun pc => none
abbrev q_En_isSound_0 (d : Nat) (a0 : Int) (m : zM) (h : zH) (Q : zQ) : Prop := WP d n_En_isSound 0 [some (.inr (.inr a0))] [] m h Q
set_option maxRecDepth 100000 in
set_option maxHeartbeats 8000000 in
theorem s_En_isSound_0 (d : Nat) (a0 : Int) (m : zM) (h : zH) (Q : zQ) (H :
  kd h a0 = 6 ∧ ((m a0 4) ≠ 0 →
    ((0 : Int) = 0 ∨ (0 : Int) = 1) ∧ Q (some (.inl (0 : Int))) m h) ∧
  (¬ ((m a0 4) ≠ 0) →
    kd h a0 = 6 ∧ zcal WP d n_En_isInShops [.inr (.inr a0)] m h (zk1 fun r1 m1 h1 =>
    (r1 ≠ 0 →
      ((0 : Int) = 0 ∨ (0 : Int) = 1) ∧ Q (some (.inl (0 : Int))) m1 h1) ∧
    (¬ (r1 ≠ 0) →
      ((1 : Int) = 0 ∨ (1 : Int) = 1) ∧ Q (some (.inl (1 : Int))) m1 h1)))) : q_En_isSound_0 d a0 m h Q := zvc_ok zc_En_isSound zm_En_isSound 11 (fun _ => rfl) H
theorem e_En_isSound (d : Nat) (a0 : Int) (m : zM) (h : zH) (Q : zQ) (H : q_En_isSound_0 d a0 m h Q) : zcal WP (d + 1) n_En_isSound [.inr (.inr a0)] m h Q := zcal_mk rfl H
def zm_En_wash : Nat → Option (List Bool) := fun pc => none
abbrev q_En_wash_0 (d : Nat) (a0 : Int) (m : zM) (h : zH) (Q : zQ) : Prop := WP d n_En_wash 0 [some (.inr (.inr a0))] [] m h Q
set_option maxRecDepth 100000 in
set_option maxHeartbeats 8000000 in
theorem s_En_wash_0 (d : Nat) (a0 : Int) (m : zM) (h : zH) (Q : zQ) (H :
  kd h a0 = 6 ∧ zcal WP d n_En_isSound [.inr (.inr a0)] m h (zk1 fun r1 m1 h1 =>
  (r1 = 0 →
    Q none m1 h1) ∧
  (¬ (r1 = 0) →
    kd h1 a0 = 6 ∧ ((m1 a0 14) = 0 →
      kd h1 a0 = 6 ∧ 0 < a0 ∧ ∀ m2, m2 = zwr m1 a0 6 0 →
      kd h1 a0 = 6 ∧ kd h1 a0 = 6 ∧ 0 < a0 ∧ ∀ m3, m3 = zwr m2 a0 8 (m2 a0 10) →
      ((1 : Int) = 0 ∨ (1 : Int) = 1) ∧ kd h1 a0 = 6 ∧ 0 < a0 ∧ ∀ m4, m4 = zwr m3 a0 11 1 →
      Q none m4 h1) ∧
    (¬ ((m1 a0 14) = 0) →
      Q none m1 h1)))) : q_En_wash_0 d a0 m h Q := zvc_ok zc_En_wash zm_En_wash 18 (fun _ => rfl) H
theorem e_En_wash (d : Nat) (a0 : Int) (m : zM) (h : zH) (Q : zQ) (H : q_En_wash_0 d a0 m h Q) : zcal WP (d + 1) n_En_wash [.inr (.inr a0)] m h Q := zcal_mk rfl H
def zm_En_look : Nat → Option (List Bool) := fun pc => none
abbrev q_En_look_0 (d : Nat) (a0 : Int) (m : zM) (h : zH) (Q : zQ) : Prop := WP d n_En_look 0 [some (.inr (.inr a0))] [] m h Q
set_option maxRecDepth 100000 in
set_option maxHeartbeats 8000000 in
theorem s_En_look_0 (d : Nat) (a0 : Int) (m : zM) (h : zH) (Q : zQ) (H :
  kd h a0 = 6 ∧ zcal WP d n_En_isSound [.inr (.inr a0)] m h (zk1 fun r1 m1 h1 =>
  (r1 = 0 →
    Q none m1 h1) ∧
  (¬ (r1 = 0) →
    kd h1 a0 = 6 ∧ kd h1 a0 = 6 ∧ 0 < a0 ∧ ∀ m2, m2 = zwr m1 a0 9 (m1 a0 10) →
    Q none m2 h1))) : q_En_look_0 d a0 m h Q := zvc_ok zc_En_look zm_En_look 9 (fun _ => rfl) H
theorem e_En_look (d : Nat) (a0 : Int) (m : zM) (h : zH) (Q : zQ) (H : q_En_look_0 d a0 m h Q) : zcal WP (d + 1) n_En_look [.inr (.inr a0)] m h Q := zcal_mk rfl H
def zm_En_enterShops : Nat → Option (List Bool) := fun pc => none
abbrev q_En_enterShops_0 (d : Nat) (a0 a1 : Int) (m : zM) (h : zH) (Q : zQ) : Prop := WP d n_En_enterShops 0 [some (.inr (.inr a0)), some (.inl a1)] [] m h Q
set_option maxRecDepth 100000 in
set_option maxHeartbeats 8000000 in
theorem s_En_enterShops_0 (d : Nat) (a0 a1 : Int) (m : zM) (h : zH) (Q : zQ) (H :
  kd h a0 = 6 ∧ zcal WP d n_En_isSound [.inr (.inr a0)] m h (zk1 fun r1 m1 h1 =>
  (r1 = 0 →
    Q none m1 h1) ∧
  (¬ (r1 = 0) →
    kd h1 a0 = 6 ∧ ((m1 a0 14) = 0 →
      kd h1 a0 = 6 ∧ (a1 ≤ (m1 a0 10) →
        Q none m1 h1) ∧
      (¬ (a1 ≤ (m1 a0 10)) →
        kd h1 a0 = 6 ∧ 0 < a0 ∧ ∀ m2, m2 = zwr m1 a0 5 a1 →
        Q none m2 h1)) ∧
    (¬ ((m1 a0 14) = 0) →
      Q none m1 h1)))) : q_En_enterShops_0 d a0 a1 m h Q := zvc_ok zc_En_enterShops zm_En_enterShops 15 (fun _ => rfl) H
theorem e_En_enterShops (d : Nat) (a0 a1 : Int) (m : zM) (h : zH) (Q : zQ) (H : q_En_enterShops_0 d a0 a1 m h Q) : zcal WP (d + 1) n_En_enterShops [.inr (.inr a0), .inl a1] m h Q := zcal_mk rfl H
def zm_En_lendTo : Nat → Option (List Bool) := fun pc => none
abbrev q_En_lendTo_0 (d : Nat) (a0 a1 : Int) (m : zM) (h : zH) (Q : zQ) : Prop := WP d n_En_lendTo 0 [some (.inr (.inr a0)), some (.inl a1)] [] m h Q
set_option maxRecDepth 100000 in
set_option maxHeartbeats 8000000 in
theorem s_En_lendTo_0 (d : Nat) (a0 a1 : Int) (m : zM) (h : zH) (Q : zQ) (H :
  kd h a0 = 6 ∧ zcal WP d n_En_isSound [.inr (.inr a0)] m h (zk1 fun r1 m1 h1 =>
  (r1 = 0 →
    Q none m1 h1) ∧
  (¬ (r1 = 0) →
    kd h1 a0 = 6 ∧ (a1 = (m1 a0 3) →
      Q none m1 h1) ∧
    (¬ (a1 = (m1 a0 3)) →
      kd h1 a0 = 6 ∧ 0 < a0 ∧ ∀ m2, m2 = zwr m1 a0 3 a1 →
      kd h1 a0 = 6 ∧ 0 < a0 ∧ ∀ m3, m3 = zwr m2 a0 2 a1 →
      Q none m3 h1)))) : q_En_lendTo_0 d a0 a1 m h Q := zvc_ok zc_En_lendTo zm_En_lendTo 15 (fun _ => rfl) H
theorem e_En_lendTo (d : Nat) (a0 a1 : Int) (m : zM) (h : zH) (Q : zQ) (H : q_En_lendTo_0 d a0 a1 m h Q) : zcal WP (d + 1) n_En_lendTo [.inr (.inr a0), .inl a1] m h Q := zcal_mk rfl H
def zm_En_tell : Nat → Option (List Bool) := fun pc => none
abbrev q_En_tell_0 (d : Nat) (a0 a1 a2 : Int) (m : zM) (h : zH) (Q : zQ) : Prop := WP d n_En_tell 0 [some (.inr (.inr a0)), some (.inl a1), some (.inl a2)] [] m h Q
set_option maxRecDepth 100000 in
set_option maxHeartbeats 8000000 in
theorem s_En_tell_0 (d : Nat) (a0 a1 a2 : Int) (m : zM) (h : zH) (Q : zQ) (H :
  (a1 = 0 →
    kd h a0 = 6 ∧ zcal WP d n_En_isInShops [.inr (.inr a0)] m h (zk1 fun r1 m1 h1 =>
    (r1 = 0 →
      kd h1 a0 = 6 ∧ Q (some (.inl (m1 a0 2))) m1 h1) ∧
    (¬ (r1 = 0) →
      Q (some (.inl ((-1)))) m1 h1))) ∧
  (¬ a1 = 0 →
  (a1 = 1 →
    kd h a0 = 6 ∧ zcal WP d n_En_isInShops [.inr (.inr a0)] m h (zk1 fun r1 m1 h1 =>
    (r1 = 0 →
      kd h1 a0 = 6 ∧ ((m1 a0 4) = 0 →
        Q (some (.inl (0 : Int))) m1 h1) ∧
      (¬ ((m1 a0 4) = 0) →
        Q (some (.inl (2 : Int))) m1 h1)) ∧
    (¬ (r1 = 0) →
      Q (some (.inl (1 : Int))) m1 h1))) ∧
  (¬ a1 = 1 →
  (a1 = 2 →
    kd h a0 = 6 ∧ Q (some (.inl (m a0 6))) m h) ∧
  (¬ a1 = 2 →
  (a1 = 3 →
    kd h a0 = 6 ∧ Q (some (.inl (m a0 7))) m h) ∧
  (¬ a1 = 3 →
  (a1 = 4 →
    kd h a0 = 6 ∧ Q (some (.inl (w32 (a2 - (m a0 8))))) m h) ∧
  (¬ a1 = 4 →
  (a1 = 5 →
    kd h a0 = 6 ∧ Q (some (.inl (w32 (a2 - (m a0 9))))) m h) ∧
  (¬ a1 = 5 →
  (a1 = 6 →
    kd h a0 = 6 ∧ Q (some (.inl (m a0 3))) m h) ∧
  (¬ a1 = 6 →
    Q (some (.inl ((-1)))) m h)))))))) : q_En_tell_0 d a0 a1 a2 m h Q := zvc_ok zc_En_tell zm_En_tell 44 (fun _ => rfl) H
theorem e_En_tell (d : Nat) (a0 a1 a2 : Int) (m : zM) (h : zH) (Q : zQ) (H : q_En_tell_0 d a0 a1 a2 m h Q) : zcal WP (d + 1) n_En_tell [.inr (.inr a0), .inl a1, .inl a2] m h Q := zcal_mk rfl H
def zm_Fa_init : Nat → Option (List Bool) := fun pc => none
abbrev q_Fa_init_0 (d : Nat) (a0 a1 a2 a3 : Int) (m : zM) (h : zH) (Q : zQ) : Prop := WP d n_Fa_init 0 [some (.inr (.inr a0)), some (.inl a1), some (.inl a2), some (.inl a3)] [] m h Q
set_option maxRecDepth 100000 in
set_option maxHeartbeats 8000000 in
theorem s_Fa_init_0 (d : Nat) (a0 a1 a2 a3 : Int) (m : zM) (h : zH) (Q : zQ) (H :
  0 < a0 ∧ kd h a0 = 7 ∧ 0 < a0 ∧ ∀ m1, m1 = zwr m a0 3 ((-1)) →
  kd h a0 = 7 ∧ 0 < a0 ∧ ∀ m2, m2 = zwr m1 a0 4 ((-1)) →
  kd h a0 = 7 ∧ 0 < a0 ∧ ∀ m3, m3 = zwr m2 a0 5 ((-1)) →
  kd h a0 = 7 ∧ 0 < a0 ∧ ∀ m4, m4 = zwr m3 a0 7 ((-1)) →
  kd h a0 = 7 ∧ 0 < a0 ∧ ∀ m5, m5 = zwr m4 a0 0 a1 →
  kd h a0 = 7 ∧ 0 < a0 ∧ ∀ m6, m6 = zwr m5 a0 1 a2 →
  kd h a0 = 7 ∧ 0 < a0 ∧ ∀ m7, m7 = zwr m6 a0 2 a3 →
  Q none m7 h) : q_Fa_init_0 d a0 a1 a2 a3 m h Q := zvc_ok zc_Fa_init zm_Fa_init 25 (fun _ => rfl) H
theorem e_Fa_init (d : Nat) (a0 a1 a2 a3 : Int) (m : zM) (h : zH) (Q : zQ) (H : q_Fa_init_0 d a0 a1 a2 a3 m h Q) : zcal WP (d + 1) n_Fa_init [.inr (.inr a0), .inl a1, .inl a2, .inl a3] m h Q := zcal_mk rfl H
def zm_Fa_tell : Nat → Option (List Bool) := fun pc => none
abbrev q_Fa_tell_0 (d : Nat) (a0 a1 : Int) (m : zM) (h : zH) (Q : zQ) : Prop := WP d n_Fa_tell 0 [some (.inr (.inr a0)), some (.inl a1)] [] m h Q
set_option maxRecDepth 100000 in
set_option maxHeartbeats 8000000 in
theorem s_Fa_tell_0 (d : Nat) (a0 a1 : Int) (m : zM) (h : zH) (Q : zQ) (H :
  (a1 = 0 →
    kd h a0 = 7 ∧ Q (some (.inl (m a0 11))) m h) ∧
  (¬ a1 = 0 →
  (a1 = 1 →
    kd h a0 = 7 ∧ Q (some (.inl (m a0 12))) m h) ∧
  (¬ a1 = 1 →
  (a1 = 2 →
    kd h a0 = 7 ∧ Q (some (.inl (m a0 13))) m h) ∧
  (¬ a1 = 2 →
  (a1 = 3 →
    kd h a0 = 7 ∧ ((m a0 15) = 0 →
      Q (some (.inl (0 : Int))) m h) ∧
    (¬ ((m a0 15) = 0) →
      Q (some (.inl (1 : Int))) m h)) ∧
  (¬ a1 = 3 →
  (a1 = 4 →
    kd h a0 = 7 ∧ Q (some (.inl (m a0 14))) m h) ∧
  (¬ a1 = 4 →
    Q (some (.inl ((-1)))) m h)))))) : q_Fa_tell_0 d a0 a1 m h Q := zvc_ok zc_Fa_tell zm_Fa_tell 24 (fun _ => rfl) H
theorem e_Fa_tell (d : Nat) (a0 a1 : Int) (m : zM) (h : zH) (Q : zQ) (H : q_Fa_tell_0 d a0 a1 m h Q) : zcal WP (d + 1) n_Fa_tell [.inr (.inr a0), .inl a1] m h Q := zcal_mk rfl H
def zm_Rd_init : Nat → Option (List Bool) := fun pc => none
abbrev q_Rd_init_0 (d : Nat) (a0 : Int) (m : zM) (h : zH) (Q : zQ) : Prop := WP d n_Rd_init 0 [some (.inr (.inr a0))] [] m h Q
set_option maxRecDepth 100000 in
set_option maxHeartbeats 8000000 in
theorem s_Rd_init_0 (d : Nat) (a0 : Int) (m : zM) (h : zH) (Q : zQ) (H :
  0 < a0 ∧ (0 : Int) ≤ 2000 ∧ 2000 ≤ (100000 : Int) ∧ ∀ m1 h1, m1 = znm m h → h1 = znh h 102 2000 2000 →
  kd h1 a0 = 8 ∧ 0 < a0 ∧ ∀ m2, m2 = zwr m1 a0 0 (nx h) →
  kd h1 a0 = 8 ∧ 0 < a0 ∧ ∀ m3, m3 = zwr m2 a0 2 ((-1)) →
  ∀ m4 h4, m4 = znm m3 h1 → h4 = znh h1 10 0 9 →
  kd h4 (nx h1) = 10 ∧ zcal WP d n_Tx_init [.inr (.inr (nx h1))] m4 h4 (zk0 fun m5 h5 =>
  kd h5 a0 = 8 ∧ 0 < a0 ∧ ∀ m6, m6 = zwr m5 a0 3 (nx h1) →
  (0 : Int) ≤ 400 ∧ 400 ≤ (100000 : Int) ∧ ∀ m7 h7, m7 = znm m6 h5 → h7 = znh h5 101 400 400 →
  kd h7 a0 = 8 ∧ 0 < a0 ∧ ∀ m8, m8 = zwr m7 a0 4 (nx h5) →
  Q none m8 h7)) : q_Rd_init_0 d a0 m h Q := zvc_ok zc_Rd_init zm_Rd_init 20 (fun _ => rfl) H
theorem e_Rd_init (d : Nat) (a0 : Int) (m : zM) (h : zH) (Q : zQ) (H : q_Rd_init_0 d a0 m h Q) : zcal WP (d + 1) n_Rd_init [.inr (.inr a0)] m h Q := zcal_mk rfl H
def zm_Rd_append : Nat → Option (List Bool) := fun pc => bif Nat.beq pc 3 then some [true, true, true] else (none)
abbrev q_Rd_append_0 (d : Nat) (a0 a1 : Int) (m : zM) (h : zH) (Q : zQ) : Prop := WP d n_Rd_append 0 [some (.inr (.inr a0)), some (.inl a1), none] [] m h Q
abbrev q_Rd_append_3 (d : Nat) (a0 a1 a2 : Int) (m : zM) (h : zH) (Q : zQ) : Prop := WP d n_Rd_append 3 [some (.inr (.inr a0)), some (.inl a1), some (.inl a2)] [] m h Q
set_option maxRecDepth 100000 in
set_option maxHeartbeats 8000000 in
theorem s_Rd_append_0 (d : Nat) (a0 a1 : Int) (m : zM) (h : zH) (Q : zQ) (H :
  q_Rd_append_3 d a0 a1 24 m h Q) : q_Rd_append_0 d a0 a1 m h Q := zvc_ok zc_Rd_append zm_Rd_append 27 (fun _ => rfl) H
set_option maxRecDepth 100000 in
set_option maxHeartbeats 8000000 in
theorem s_Rd_append_3 (d : Nat) (a0 a1 a2 : Int) (m : zM) (h : zH) (Q : zQ) (H :
  (a2 < 0 →
    Q none m h) ∧
  (¬ (a2 < 0) →
    kd h a0 = 8 ∧ ((2000 : Int) ≤ (m a0 1) →
      q_Rd_append_3 d a0 a1 (w32 (a2 + (-8))) m h Q) ∧
    (¬ ((2000 : Int) ≤ (m a0 1)) →
      kd h a0 = 8 ∧ kd h a0 = 8 ∧ kd h (m a0 0) = 102 ∧ 0 < (m a0 0) ∧ (0 : Int) ≤ (m a0 1) ∧ (m a0 1) < ln h (m a0 0) ∧ ∀ m1, m1 = zwr m (m a0 0) (m a0 1) (w8 (w8 (zshr a1 a2))) →
      kd h a0 = 8 ∧ kd h a0 = 8 ∧ 0 < a0 ∧ ∀ m2, m2 = zwr m1 a0 1 (w32 ((m1 a0 1) + 1)) →
      q_Rd_append_3 d a0 a1 (w32 (a2 + (-8))) m2 h Q))) : q_Rd_append_3 d a0 a1 a2 m h Q := zvc_ok zc_Rd_append zm_Rd_append 27 (fun _ => rfl) H
theorem e_Rd_append (d : Nat) (a0 a1 : Int) (m : zM) (h : zH) (Q : zQ) (H : q_Rd_append_0 d a0 a1 m h Q) : zcal WP (d + 1) n_Rd_append [.inr (.inr a0), .inl a1] m h Q := zcal_mk rfl H
def zm_Rd_readTape : Nat → Option (List Bool) := fun pc => bif Nat.beq pc 8 then some [true, true, true] else (bif Nat.beq pc 51 then some [true, true, false] else (bif Nat.beq pc 77 then some [true, true, false] else (none)))
abbrev q_Rd_readTape_0 (d : Nat) (a0 : Int) (m : zM) (h : zH) (Q : zQ) : Prop := WP d n_Rd_readTape 0 [some (.inr (.inr a0)), none, none] [] m h Q
abbrev q_Rd_readTape_8 (d : Nat) (a0 a1 a2 : Int) (m : zM) (h : zH) (Q : zQ) : Prop := WP d n_Rd_readTape 8 [some (.inr (.inr a0)), some (.inl a1), some (.inl a2)] [] m h Q
abbrev q_Rd_readTape_51 (d : Nat) (a0 a1 : Int) (m : zM) (h : zH) (Q : zQ) : Prop := WP d n_Rd_readTape 51 [some (.inr (.inr a0)), some (.inl a1), none] [] m h Q
abbrev q_Rd_readTape_77 (d : Nat) (a0 a1 : Int) (m : zM) (h : zH) (Q : zQ) : Prop := WP d n_Rd_readTape 77 [some (.inr (.inr a0)), some (.inl a1), none] [] m h Q
set_option maxRecDepth 100000 in
set_option maxHeartbeats 8000000 in
theorem s_Rd_readTape_0 (d : Nat) (a0 : Int) (m : zM) (h : zH) (Q : zQ) (H :
  kd h a0 = 8 ∧ zcal WP d n_Rd_begin [.inr (.inr a0)] m h (zk0 fun m1 h1 =>
  q_Rd_readTape_8 d a0 0 0 m1 h1 Q)) : q_Rd_readTape_0 d a0 m h Q := zvc_ok zc_Rd_readTape zm_Rd_readTape 54 (fun _ => rfl) H
set_option maxRecDepth 100000 in
set_option maxHeartbeats 8000000 in
theorem s_Rd_readTape_8 (d : Nat) (a0 a1 a2 : Int) (m : zM) (h : zH) (Q : zQ) (H :
  kd h a0 = 8 ∧ ((m a0 1) < a2 →
    q_Rd_readTape_51 d a0 a1 m h Q) ∧
  (¬ ((m a0 1) < a2) →
    (a1 ≠ 0 →
      q_Rd_readTape_51 d a0 a1 m h Q) ∧
    (¬ (a1 ≠ 0) →
      kd h a0 = 8 ∧ ((m a0 8) = 1 →
        q_Rd_readTape_51 d a0 a1 m h Q) ∧
      (¬ ((m a0 8) = 1) →
        kd h a0 = 8 ∧ zcal WP d n_Rd_nextToken [.inr (.inr a0)] m h (zk0 fun m1 h1 =>
        kd h1 a0 = 8 ∧ zcal WP d n_Rd_judge [.inr (.inr a0)] m1 h1 (zk1 fun r2 m2 h2 =>
        (r2 ≠ 0 →
          q_Rd_readTape_8 d a0 r2 (w32 (a2 + 1)) m2 h2 Q) ∧
        (¬ (r2 ≠ 0) →
          kd h2 a0 = 8 ∧ zcal WP d n_Rd_take [.inr (.inr a0)] m2 h2 (zk0 fun m3 h3 =>
          q_Rd_readTape_8 d a0 r2 (w32 (a2 + 1)) m3 h3 Q)))))))) : q_Rd_readTape_8 d a0 a1 a2 m h Q := zvc_ok zc_Rd_readTape zm_Rd_readTape 54 (fun _ => rfl) H
set_option maxRecDepth 100000 in
set_option maxHeartbeats 8000000 in
theorem s_Rd_readTape_51 (d : Nat) (a0 a1 : Int) (m : zM) (h : zH) (Q : zQ) (H :
  (a1 ≠ 0 →
    q_Rd_readTape_77 d a0 a1 m h Q) ∧
  (¬ (a1 ≠ 0) →
    kd h a0 = 8 ∧ kd h (m a0 3) = 10 ∧ ((m (m a0 3) 8) ≤ 119 →
      q_Rd_readTape_77 d a0 a1 m h Q) ∧
    (¬ ((m (m a0 3) 8) ≤ 119) →
      kd h a0 = 8 ∧ kd h a0 = 8 ∧ 0 < a0 ∧ ∀ m1, m1 = zwr m a0 7 (m a0 15) →
      q_Rd_readTape_77 d a0 5 m1 h Q))) : q_Rd_readTape_51 d a0 a1 m h Q := zvc_ok zc_Rd_readTape zm_Rd_readTape 54 (fun _ => rfl) H
set_option maxRecDepth 100000 in
set_option maxHeartbeats 8000000 in
theorem s_Rd_readTape_77 (d : Nat) (a0 a1 : Int) (m : zM) (h : zH) (Q : zQ) (H :
  (a1 ≠ 0 →
    kd h a0 = 8 ∧ kd h a0 = 8 ∧ 0 < a0 ∧ ∀ m1, m1 = zwr m a0 2 (m a0 7) →
    kd h a0 = 8 ∧ 0 < a0 ∧ ∀ m2, m2 = zwr m1 a0 1 0 →
    Q (some (.inl a1)) m2 h) ∧
  (¬ (a1 ≠ 0) →
    kd h a0 = 8 ∧ 0 < a0 ∧ ∀ m1, m1 = zwr m a0 2 ((-1)) →
    kd h a0 = 8 ∧ 0 < a0 ∧ ∀ m2, m2 = zwr m1 a0 1 0 →
    Q (some (.inl a1)) m2 h)) : q_Rd_readTape_77 d a0 a1 m h Q := zvc_ok zc_Rd_readTape zm_Rd_readTape 54 (fun _ => rfl) H
theorem e_Rd_readTape (d : Nat) (a0 : Int) (m : zM) (h : zH) (Q : zQ) (H : q_Rd_readTape_0 d a0 m h Q) : zcal WP (d + 1) n_Rd_readTape [.inr (.inr a0)] m h Q := zcal_mk rfl H
def zm_Rd_handOver : Nat → Option (List Bool) := fun pc => none
abbrev q_Rd_handOver_0 (d : Nat) (a0 : Int) (m : zM) (h : zH) (Q : zQ) : Prop := WP d n_Rd_handOver 0 [some (.inr (.inr a0)), none] [] m h Q
set_option maxRecDepth 100000 in
set_option maxHeartbeats 8000000 in
theorem s_Rd_handOver_0 (d : Nat) (a0 : Int) (m : zM) (h : zH) (Q : zQ) (H :
  kd h a0 = 8 ∧ ∀ m1 h1, m1 = znm m h → h1 = znh h 10 0 9 →
  kd h1 (nx h) = 10 ∧ zcal WP d n_Tx_init [.inr (.inr (nx h))] m1 h1 (zk0 fun m2 h2 =>
  kd h2 a0 = 8 ∧ 0 < a0 ∧ ∀ m3, m3 = zwr m2 a0 3 (nx h) →
  Q (some (.inr (.inr (m a0 3)))) m3 h2)) : q_Rd_handOver_0 d a0 m h Q := zvc_ok zc_Rd_handOver zm_Rd_handOver 11 (fun _ => rfl) H
theorem e_Rd_handOver (d : Nat) (a0 : Int) (m : zM) (h : zH) (Q : zQ) (H : q_Rd_handOver_0 d a0 m h Q) : zcal WP (d + 1) n_Rd_handOver [.inr (.inr a0)] m h Q := zcal_mk rfl H
def zm_Rd_begin : Nat → Option (List Bool) := fun pc => none
abbrev q_Rd_begin_0 (d : Nat) (a0 : Int) (m : zM) (h : zH) (Q : zQ) : Prop := WP d n_Rd_begin 0 [some (.inr (.inr a0))] [] m h Q
set_option maxRecDepth 100000 in
set_option maxHeartbeats 8000000 in
theorem s_Rd_begin_0 (d : Nat) (a0 : Int) (m : zM) (h : zH) (Q : zQ) (H :
  kd h a0 = 8 ∧ kd h (m a0 3) = 10 ∧ zcal WP d n_Tx_empty [.inr (.inr (m a0 3))] m h (zk0 fun m1 h1 =>
  kd h1 a0 = 8 ∧ 0 < a0 ∧ ∀ m2, m2 = zwr m1 a0 5 0 →
  kd h1 a0 = 8 ∧ 0 < a0 ∧ ∀ m3, m3 = zwr m2 a0 6 0 →
  kd h1 a0 = 8 ∧ 0 < a0 ∧ ∀ m4, m4 = zwr m3 a0 8 0 →
  kd h1 a0 = 8 ∧ 0 < a0 ∧ ∀ m5, m5 = zwr m4 a0 11 0 →
  kd h1 a0 = 8 ∧ 0 < a0 ∧ ∀ m6, m6 = zwr m5 a0 12 0 →
  kd h1 a0 = 8 ∧ 0 < a0 ∧ ∀ m7, m7 = zwr m6 a0 14 0 →
  Q none m7 h1)) : q_Rd_begin_0 d a0 m h Q := zvc_ok zc_Rd_begin zm_Rd_begin 23 (fun _ => rfl) H
theorem e_Rd_begin (d : Nat) (a0 : Int) (m : zM) (h : zH) (Q : zQ) (H : q_Rd_begin_0 d a0 m h Q) : zcal WP (d + 1) n_Rd_begin [.inr (.inr a0)] m h Q := zcal_mk rfl H
def zm_Rd_byteAt : Nat → Option (List Bool) := fun pc => none
abbrev q_Rd_byteAt_0 (d : Nat) (a0 a1 : Int) (m : zM) (h : zH) (Q : zQ) : Prop := WP d n_Rd_byteAt 0 [some (.inr (.inr a0)), some (.inl a1)] [] m h Q
set_option maxRecDepth 100000 in
set_option maxHeartbeats 8000000 in
theorem s_Rd_byteAt_0 (d : Nat) (a0 a1 : Int) (m : zM) (h : zH) (Q : zQ) (H :
  (a1 < 0 →
    Q (some (.inl (0 : Int))) m h) ∧
  (¬ (a1 < 0) →
    kd h a0 = 8 ∧ ((m a0 1) ≤ a1 →
      Q (some (.inl (0 : Int))) m h) ∧
    (¬ ((m a0 1) ≤ a1) →
      kd h a0 = 8 ∧ kd h (m a0 0) = 102 ∧ (0 : Int) ≤ a1 ∧ a1 < ln h (m a0 0) ∧ Q (some (.inl (zand (m (m a0 0) a1) 255))) m h))) : q_Rd_byteAt_0 d a0 a1 m h Q := zvc_ok zc_Rd_byteAt zm_Rd_byteAt 16 (fun _ => rfl) H
theorem e_Rd_byteAt (d : Nat) (a0 a1 : Int) (m : zM) (h : zH) (Q : zQ) (H : q_Rd_byteAt_0 d a0 a1 m h Q) : zcal WP (d + 1) n_Rd_byteAt [.inr (.inr a0), .inl a1] m h Q := zcal_mk rfl H
def zm_Rd_isBlankAt : Nat → Option (List Bool) := fun pc => none
abbrev q_Rd_isBlankAt_0 (d : Nat) (a0 a1 : Int) (m : zM) (h : zH) (Q : zQ) : Prop := WP d n_Rd_isBlankAt 0 [some (.inr (.inr a0)), some (.inl a1), none] [] m h Q
set_option maxRecDepth 100000 in
set_option maxHeartbeats 8000000 in
theorem s_Rd_isBlankAt_0 (d : Nat) (a0 a1 : Int) (m : zM) (h : zH) (Q : zQ) (H :
  kd h a0 = 8 ∧ zcal WP d n_Rd_byteAt [.inr (.inr a0), .inl a1] m h (zk1 fun r1 m1 h1 =>
  (r1 = 9 →
    ((1 : Int) = 0 ∨ (1 : Int) = 1) ∧ Q (some (.inl (1 : Int))) m1 h1) ∧
  (¬ (r1 = 9) →
    (r1 = 10 →
      ((1 : Int) = 0 ∨ (1 : Int) = 1) ∧ Q (some (.inl (1 : Int))) m1 h1) ∧
    (¬ (r1 = 10) →
      (r1 = 13 →
        ((1 : Int) = 0 ∨ (1 : Int) = 1) ∧ Q (some (.inl (1 : Int))) m1 h1) ∧
      (¬ (r1 = 13) →
        (r1 ≠ 32 →
          ((0 : Int) = 0 ∨ (0 : Int) = 1) ∧ Q (some (.inl (0 : Int))) m1 h1) ∧
        (¬ (r1 ≠ 32) →
          ((1 : Int) = 0 ∨ (1 : Int) = 1) ∧ Q (some (.inl (1 : Int))) m1 h1)))))) : q_Rd_isBlankAt_0 d a0 a1 m h Q := zvc_ok zc_Rd_isBlankAt zm_Rd_isBlankAt 21 (fun _ => rfl) H
theorem e_Rd_isBlankAt (d : Nat) (a0 a1 : Int) (m : zM) (h : zH) (Q : zQ) (H : q_Rd_isBlankAt_0 d a0 a1 m h Q) : zcal WP (d + 1) n_Rd_isBlankAt [.inr (.inr a0), .inl a1] m h Q := zcal_mk rfl H
def zm_Rd_isLetterAt : Nat → Option (List Bool) := fun pc => none
abbrev q_Rd_isLetterAt_0 (d : Nat) (a0 a1 : Int) (m : zM) (h : zH) (Q : zQ) : Prop := WP d n_Rd_isLetterAt 0 [some (.inr (.inr a0)), some (.inl a1)] [] m h Q
set_option maxRecDepth 100000 in
set_option maxHeartbeats 8000000 in
theorem s_Rd_isLetterAt_0 (d : Nat) (a0 a1 : Int) (m : zM) (h : zH) (Q : zQ) (H :
  kd h a0 = 8 ∧ zcal WP d n_Rd_byteAt [.inr (.inr a0), .inl a1] m h (zk1 fun r1 m1 h1 =>
  zcal WP d n_Es_within [.inl r1, .inl 97, .inl 122] m1 h1 (zk1 fun r2 m2 h2 =>
  (r2 = 0 ∨ r2 = 1) ∧ Q (some (.inl r2)) m2 h2))) : q_Rd_isLetterAt_0 d a0 a1 m h Q := zvc_ok zc_Rd_isLetterAt zm_Rd_isLetterAt 8 (fun _ => rfl) H
theorem e_Rd_isLetterAt (d : Nat) (a0 a1 : Int) (m : zM) (h : zH) (Q : zQ) (H : q_Rd_isLetterAt_0 d a0 a1 m h Q) : zcal WP (d + 1) n_Rd_isLetterAt [.inr (.inr a0), .inl a1] m h Q := zcal_mk rfl H
def zm_Rd_isDigitAt : Nat → Option (List Bool) := fun pc => none
abbrev q_Rd_isDigitAt_0 (d : Nat) (a0 a1 : Int) (m : zM) (h : zH) (Q : zQ) : Prop := WP d n_Rd_isDigitAt 0 [some (.inr (.inr a0)), some (.inl a1)] [] m h Q
set_option maxRecDepth 100000 in
set_option maxHeartbeats 8000000 in
theorem s_Rd_isDigitAt_0 (d : Nat) (a0 a1 : Int) (m : zM) (h : zH) (Q : zQ) (H :
  kd h a0 = 8 ∧ zcal WP d n_Rd_byteAt [.inr (.inr a0), .inl a1] m h (zk1 fun r1 m1 h1 =>
  zcal WP d n_Es_within [.inl r1, .inl 48, .inl 57] m1 h1 (zk1 fun r2 m2 h2 =>
  (r2 = 0 ∨ r2 = 1) ∧ Q (some (.inl r2)) m2 h2))) : q_Rd_isDigitAt_0 d a0 a1 m h Q := zvc_ok zc_Rd_isDigitAt zm_Rd_isDigitAt 8 (fun _ => rfl) H
theorem e_Rd_isDigitAt (d : Nat) (a0 a1 : Int) (m : zM) (h : zH) (Q : zQ) (H : q_Rd_isDigitAt_0 d a0 a1 m h Q) : zcal WP (d + 1) n_Rd_isDigitAt [.inr (.inr a0), .inl a1] m h Q := zcal_mk rfl H
def zm_Rd_nextToken : Nat → Option (List Bool) := fun pc => bif Nat.beq pc 0 then some [true] else (bif Nat.beq pc 35 then some [true] else (none))
abbrev q_Rd_nextToken_0 (d : Nat) (a0 : Int) (m : zM) (h : zH) (Q : zQ) : Prop := WP d n_Rd_nextToken 0 [some (.inr (.inr a0))] [] m h Q
abbrev q_Rd_nextToken_35 (d : Nat) (a0 : Int) (m : zM) (h : zH) (Q : zQ) : Prop := WP d n_Rd_nextToken 35 [some (.inr (.inr a0))] [] m h Q
set_option maxRecDepth 100000 in
set_option maxHeartbeats 8000000 in
theorem s_Rd_nextToken_0 (d : Nat) (a0 : Int) (m : zM) (h : zH) (Q : zQ) (H :
  kd h a0 = 8 ∧ kd h a0 = 8 ∧ ((m a0 1) ≤ (m a0 6) →
    q_Rd_nextToken_35 d a0 m h Q) ∧
  (¬ ((m a0 1) ≤ (m a0 6)) →
    kd h a0 = 8 ∧ kd h a0 = 8 ∧ zcal WP d n_Rd_isBlankAt [.inr (.inr a0), .inl (m a0 6)] m h (zk1 fun r1 m1 h1 =>
    (r1 = 0 →
      q_Rd_nextToken_35 d a0 m1 h1 Q) ∧
    (¬ (r1 = 0) →
      kd h1 a0 = 8 ∧ kd h1 a0 = 8 ∧ 0 < a0 ∧ ∀ m2, m2 = zwr m1 a0 6 (w32 ((m1 a0 6) + 1)) →
      q_Rd_nextToken_0 d a0 m2 h1 Q)))) : q_Rd_nextToken_0 d a0 m h Q := zvc_ok zc_Rd_nextToken zm_Rd_nextToken 53 (fun _ => rfl) H
set_option maxRecDepth 100000 in
set_option maxHeartbeats 8000000 in
theorem s_Rd_nextToken_35 (d : Nat) (a0 : Int) (m : zM) (h : zH) (Q : zQ) (H :
  kd h a0 = 8 ∧ kd h a0 = 8 ∧ 0 < a0 ∧ ∀ m1, m1 = zwr m a0 7 (m a0 6) →
  kd h a0 = 8 ∧ 0 < a0 ∧ ∀ m2, m2 = zwr m1 a0 9 0 →
  kd h a0 = 8 ∧ kd h a0 = 8 ∧ ((m2 a0 6) < (m2 a0 1) →
    kd h a0 = 8 ∧ kd h a0 = 8 ∧ zcal WP d n_Rd_isLetterAt [.inr (.inr a0), .inl (m2 a0 6)] m2 h (zk1 fun r3 m3 h3 =>
    (r3 = 0 →
      kd h3 a0 = 8 ∧ kd h3 a0 = 8 ∧ zcal WP d n_Rd_isDigitAt [.inr (.inr a0), .inl (m3 a0 6)] m3 h3 (zk1 fun r4 m4 h4 =>
      (r4 = 0 →
        kd h4 a0 = 8 ∧ zcal WP d n_Rd_scanSign [.inr (.inr a0)] m4 h4 (zk0 fun m5 h5 =>
        Q none m5 h5)) ∧
      (¬ (r4 = 0) →
        kd h4 a0 = 8 ∧ zcal WP d n_Rd_scanInt [.inr (.inr a0)] m4 h4 (zk0 fun m5 h5 =>
        Q none m5 h5)))) ∧
    (¬ (r3 = 0) →
      kd h3 a0 = 8 ∧ zcal WP d n_Rd_scanWord [.inr (.inr a0)] m3 h3 (zk0 fun m4 h4 =>
      Q none m4 h4)))) ∧
  (¬ ((m2 a0 6) < (m2 a0 1)) →
    kd h a0 = 8 ∧ 0 < a0 ∧ ∀ m3, m3 = zwr m2 a0 8 1 →
    Q none m3 h)) : q_Rd_nextToken_35 d a0 m h Q := zvc_ok zc_Rd_nextToken zm_Rd_nextToken 53 (fun _ => rfl) H
theorem e_Rd_nextToken (d : Nat) (a0 : Int) (m : zM) (h : zH) (Q : zQ) (H : q_Rd_nextToken_0 d a0 m h Q) : zcal WP (d + 1) n_Rd_nextToken [.inr (.inr a0)] m h Q := zcal_mk rfl H
def zm_Rd_scanWord : Nat → Option (List Bool) := fun pc => bif Nat.beq pc 5 then some [true] else (bif Nat.beq pc 67 then some [true] else (none))
abbrev q_Rd_scanWord_0 (d : Nat) (a0 : Int) (m : zM) (h : zH) (Q : zQ) : Prop := WP d n_Rd_scanWord 0 [some (.inr (.inr a0))] [] m h Q
abbrev q_Rd_scanWord_5 (d : Nat) (a0 : Int) (m : zM) (h : zH) (Q : zQ) : Prop := WP d n_Rd_scanWord 5 [some (.inr (.inr a0))] [] m h Q
abbrev q_Rd_scanWord_67 (d : Nat) (a0 : Int) (m : zM) (h : zH) (Q : zQ) : Prop := WP d n_Rd_scanWord 67 [some (.inr (.inr a0))] [] m h Q
set_option maxRecDepth 100000 in
set_option maxHeartbeats 8000000 in
theorem s_Rd_scanWord_0 (d : Nat) (a0 : Int) (m : zM) (h : zH) (Q : zQ) (H :
  kd h a0 = 8 ∧ 0 < a0 ∧ ∀ m1, m1 = zwr m a0 10 0 →
  q_Rd_scanWord_5 d a0 m1 h Q) : q_Rd_scanWord_0 d a0 m h Q := zvc_ok zc_Rd_scanWord zm_Rd_scanWord 75 (fun _ => rfl) H
set_option maxRecDepth 100000 in
set_option maxHeartbeats 8000000 in
theorem s_Rd_scanWord_5 (d : Nat) (a0 : Int) (m : zM) (h : zH) (Q : zQ) (H :
  kd h a0 = 8 ∧ kd h a0 = 8 ∧ ((m a0 1) ≤ (m a0 6) →
    q_Rd_scanWord_67 d a0 m h Q) ∧
  (¬ ((m a0 1) ≤ (m a0 6)) →
    kd h a0 = 8 ∧ kd h a0 = 8 ∧ zcal WP d n_Rd_isLetterAt [.inr (.inr a0), .inl (m a0 6)] m h (zk1 fun r1 m1 h1 =>
    (r1 = 0 →
      q_Rd_scanWord_67 d a0 m1 h1 Q) ∧
    (¬ (r1 = 0) →
      kd h1 a0 = 8 ∧ kd h1 a0 = 8 ∧ kd h1 a0 = 8 ∧ zcal WP d n_Rd_byteAt [.inr (.inr a0), .inl (m1 a0 6)] m1 h1 (zk1 fun r2 m2 h2 =>
      kd h2 a0 = 8 ∧ 0 < a0 ∧ ∀ m3, m3 = zwr m2 a0 10 (w64 ((w64 ((m1 a0 10) * 32)) + (w32 ((w32 (r2 - 97)) + 1)))) →
      kd h2 a0 = 8 ∧ kd h2 a0 = 8 ∧ 0 < a0 ∧ ∀ m4, m4 = zwr m3 a0 6 (w32 ((m3 a0 6) + 1)) →
      q_Rd_scanWord_5 d a0 m4 h2 Q))))) : q_Rd_scanWord_5 d a0 m h Q := zvc_ok zc_Rd_scanWord zm_Rd_scanWord 75 (fun _ => rfl) H
set_option maxRecDepth 100000 in
set_option maxHeartbeats 8000000 in
theorem s_Rd_scanWord_67 (d : Nat) (a0 : Int) (m : zM) (h : zH) (Q : zQ) (H :
  kd h a0 = 8 ∧ kd h a0 = 8 ∧ ((w32 ((m a0 6) - (m a0 7))) ≤ 8 →
    kd h a0 = 8 ∧ zcal WP d n_Rd_indexIn [.inr (.inr a0), .inr (.inr ((-3)))] m h (zk1 fun r1 m1 h1 =>
    kd h1 a0 = 8 ∧ 0 < a0 ∧ ∀ m2, m2 = zwr m1 a0 9 r1 →
    kd h1 a0 = 8 ∧ ((m2 a0 9) < 0 →
      kd h1 a0 = 8 ∧ zcal WP d n_Rd_indexIn [.inr (.inr a0), .inr (.inr ((-4)))] m2 h1 (zk1 fun r3 m3 h3 =>
      kd h3 a0 = 8 ∧ 0 < a0 ∧ ∀ m4, m4 = zwr m3 a0 9 r3 →
      kd h3 a0 = 8 ∧ ((m4 a0 9) < 0 →
        kd h3 a0 = 8 ∧ zcal WP d n_Rd_kindOfLink [.inr (.inr a0)] m4 h3 (zk1 fun r5 m5 h5 =>
        kd h5 a0 = 8 ∧ 0 < a0 ∧ ∀ m6, m6 = zwr m5 a0 8 r5 →
        Q none m6 h5)) ∧
      (¬ ((m4 a0 9) < 0) →
        kd h3 a0 = 8 ∧ 0 < a0 ∧ ∀ m5, m5 = zwr m4 a0 8 14 →
        Q none m5 h3))) ∧
    (¬ ((m2 a0 9) < 0) →
      kd h1 a0 = 8 ∧ 0 < a0 ∧ ∀ m3, m3 = zwr m2 a0 8 4 →
      Q none m3 h1))) ∧
  (¬ ((w32 ((m a0 6) - (m a0 7))) ≤ 8) →
    kd h a0 = 8 ∧ 0 < a0 ∧ ∀ m1, m1 = zwr m a0 8 0 →
    Q none m1 h)) : q_Rd_scanWord_67 d a0 m h Q := zvc_ok zc_Rd_scanWord zm_Rd_scanWord 75 (fun _ => rfl) H
theorem e_Rd_scanWord (d : Nat) (a0 : Int) (m : zM) (h : zH) (Q : zQ) (H : q_Rd_scanWord_0 d a0 m h Q) : zcal WP (d + 1) n_Rd_scanWord [.inr (.inr a0)] m h Q := zcal_mk rfl H
def zm_Rd_kindOfLink : Nat → Option (List Bool) := fun pc => none
abbrev q_Rd_kindOfLink_0 (d : Nat) (a0 : Int) (m : zM) (h : zH) (Q : zQ) : Prop := WP d n_Rd_kindOfLink 0 [some (.inr (.inr a0))] [] m h Q
set_option maxRecDepth 100000 in
set_option maxHeartbeats 8000000 in
theorem s_Rd_kindOfLink_0 (d : Nat) (a0 : Int) (m : zM) (h : zH) (Q : zQ) (H :
  kd h a0 = 8 ∧ zcal WP d n_Rd_indexIn [.inr (.inr a0), .inr (.inr ((-5)))] m h (zk1 fun r1 m1 h1 =>
  (r1 = 0 →
    Q (some (.inl (13 : Int))) m1 h1) ∧
  (¬ r1 = 0 →
  (r1 = 1 →
    Q (some (.inl (12 : Int))) m1 h1) ∧
  (¬ r1 = 1 →
  (r1 = 2 →
    Q (some (.inl (10 : Int))) m1 h1) ∧
  (¬ r1 = 2 →
  (r1 = 3 →
    kd h1 a0 = 8 ∧ 0 < a0 ∧ ∀ m2, m2 = zwr m1 a0 9 9 →
    Q (some (.inl (11 : Int))) m2 h1) ∧
  (¬ r1 = 3 →
  (r1 = 4 →
    kd h1 a0 = 8 ∧ 0 < a0 ∧ ∀ m2, m2 = zwr m1 a0 9 10 →
    Q (some (.inl (11 : Int))) m2 h1) ∧
  (¬ r1 = 4 →
    Q (some (.inl (2 : Int))) m1 h1))))))) : q_Rd_kindOfLink_0 d a0 m h Q := zvc_ok zc_Rd_kindOfLink zm_Rd_kindOfLink 23 (fun _ => rfl) H
theorem e_Rd_kindOfLink (d : Nat) (a0 : Int) (m : zM) (h : zH) (Q : zQ) (H : q_Rd_kindOfLink_0 d a0 m h Q) : zcal WP (d + 1) n_Rd_kindOfLink [.inr (.inr a0)] m h Q := zcal_mk rfl H
def zm_Rd_indexIn : Nat → Option (List Bool) := fun pc => bif Nat.beq pc 10 then some [true, true, true, true, true, true, false] else (none)
abbrev q_Rd_indexIn_0 (d : Nat) (a0 a1 : Int) (m : zM) (h : zH) (Q : zQ) : Prop := WP d n_Rd_indexIn 0 [some (.inr (.inr a0)), some (.inr (.inr a1)), none, none, none, none, none] [] m h Q
abbrev q_Rd_indexIn_10 (d : Nat) (a0 a1 a2 a3 a4 a5 : Int) (m : zM) (h : zH) (Q : zQ) : Prop := WP d n_Rd_indexIn 10 [some (.inr (.inr a0)), some (.inr (.inr a1)), some (.inl a2), some (.inl a3), some (.inl a4), some (.inl a5), none] [] m h Q
set_option maxRecDepth 100000 in
set_option maxHeartbeats 8000000 in
theorem s_Rd_indexIn_0 (d : Nat) (a0 a1 : Int) (m : zM) (h : zH) (Q : zQ) (H :
  q_Rd_indexIn_10 d a0 a1 0 0 1 0 m h Q) : q_Rd_indexIn_0 d a0 a1 m h Q := zvc_ok zc_Rd_indexIn zm_Rd_indexIn 63 (fun _ => rfl) H
set_option maxRecDepth 100000 in
set_option maxHeartbeats 8000000 in
theorem s_Rd_indexIn_10 (d : Nat) (a0 a1 a2 a3 a4 a5 : Int) (m : zM) (h : zH) (Q : zQ) (H :
  kd h a1 = 14 ∧ zcal WP d n_Js_length [.inr (.inr a1)] m h (zk1 fun r1 m1 h1 =>
  (r1 ≤ a5 →
    Q (some (.inl ((-1)))) m1 h1) ∧
  (¬ (r1 ≤ a5) →
    kd h1 a1 = 14 ∧ zcal WP d n_Js_charAt [.inr (.inr a1), .inl a5] m1 h1 (zk1 fun r2 m2 h2 =>
    (r2 ≠ 32 →
      (a4 = 0 →
        q_Rd_indexIn_10 d a0 a1 a2 (w32 (a3 + 1)) 0 (w32 (a5 + 1)) m2 h2 Q) ∧
      (¬ (a4 = 0) →
        kd h2 a0 = 8 ∧ kd h2 a0 = 8 ∧ ((w32 ((m2 a0 6) - (m2 a0 7))) ≤ a3 →
          q_Rd_indexIn_10 d a0 a1 a2 (w32 (a3 + 1)) 0 (w32 (a5 + 1)) m2 h2 Q) ∧
        (¬ ((w32 ((m2 a0 6) - (m2 a0 7))) ≤ a3) →
          kd h2 a0 = 8 ∧ kd h2 a0 = 8 ∧ zcal WP d n_Rd_byteAt [.inr (.inr a0), .inl (w32 ((m2 a0 7) + a3))] m2 h2 (zk1 fun r3 m3 h3 =>
          (r3 ≠ r2 →
            q_Rd_indexIn_10 d a0 a1 a2 (w32 (a3 + 1)) 0 (w32 (a5 + 1)) m3 h3 Q) ∧
          (¬ (r3 ≠ r2) →
            q_Rd_indexIn_10 d a0 a1 a2 (w32 (a3 + 1)) 1 (w32 (a5 + 1)) m3 h3 Q))))) ∧
    (¬ (r2 ≠ 32) →
      (a4 = 0 →
        q_Rd_indexIn_10 d a0 a1 (w32 (a2 + 1)) 0 1 (w32 (a5 + 1)) m2 h2 Q) ∧
      (¬ (a4 = 0) →
        kd h2 a0 = 8 ∧ kd h2 a0 = 8 ∧ (a3 ≠ (w32 ((m2 a0 6) - (m2 a0 7))) →
          q_Rd_indexIn_10 d a0 a1 (w32 (a2 + 1)) 0 1 (w32 (a5 + 1)) m2 h2 Q) ∧
        (¬ (a3 ≠ (w32 ((m2 a0 6) - (m2 a0 7)))) →
          Q (some (.inl a2)) m2 h2))))))) : q_Rd_indexIn_10 d a0 a1 a2 a3 a4 a5 m h Q := zvc_ok zc_Rd_indexIn zm_Rd_indexIn 63 (fun _ => rfl) H
theorem e_Rd_indexIn (d : Nat) (a0 a1 : Int) (m : zM) (h : zH) (Q : zQ) (H : q_Rd_indexIn_0 d a0 a1 m h Q) : zcal WP (d + 1) n_Rd_indexIn [.inr (.inr a0), .inr (.inr a1)] m h Q := zcal_mk rfl H
def zm_Rd_scanInt : Nat → Option (List Bool) := fun pc => bif Nat.beq pc 0 then some [true] else (bif Nat.beq pc 75 then some [true] else (none))
abbrev q_Rd_scanInt_0 (d : Nat) (a0 : Int) (m : zM) (h : zH) (Q : zQ) : Prop := WP d n_Rd_scanInt 0 [some (.inr (.inr a0))] [] m h Q
abbrev q_Rd_scanInt_75 (d : Nat) (a0 : Int) (m : zM) (h : zH) (Q : zQ) : Prop := WP d n_Rd_scanInt 75 [some (.inr (.inr a0))] [] m h Q
set_option maxRecDepth 100000 in
set_option maxHeartbeats 8000000 in
theorem s_Rd_scanInt_0 (d : Nat) (a0 : Int) (m : zM) (h : zH) (Q : zQ) (H :
  kd h a0 = 8 ∧ kd h a0 = 8 ∧ ((m a0 1) ≤ (m a0 6) →
    q_Rd_scanInt_75 d a0 m h Q) ∧
  (¬ ((m a0 1) ≤ (m a0 6)) →
    kd h a0 = 8 ∧ kd h a0 = 8 ∧ zcal WP d n_Rd_isDigitAt [.inr (.inr a0), .inl (m a0 6)] m h (zk1 fun r1 m1 h1 =>
    (r1 = 0 →
      q_Rd_scanInt_75 d a0 m1 h1 Q) ∧
    (¬ (r1 = 0) →
      kd h1 a0 = 8 ∧ kd h1 a0 = 8 ∧ ((4 : Int) ≤ (w32 ((m1 a0 6) - (m1 a0 7))) →
        kd h1 a0 = 8 ∧ 0 < a0 ∧ ∀ m2, m2 = zwr m1 a0 9 0 →
        kd h1 a0 = 8 ∧ kd h1 a0 = 8 ∧ 0 < a0 ∧ ∀ m3, m3 = zwr m2 a0 6 (w32 ((m2 a0 6) + 1)) →
        q_Rd_scanInt_0 d a0 m3 h1 Q) ∧
      (¬ ((4 : Int) ≤ (w32 ((m1 a0 6) - (m1 a0 7)))) →
        kd h1 a0 = 8 ∧ kd h1 a0 = 8 ∧ kd h1 a0 = 8 ∧ zcal WP d n_Rd_byteAt [.inr (.inr a0), .inl (m1 a0 6)] m1 h1 (zk1 fun r2 m2 h2 =>
        kd h2 a0 = 8 ∧ 0 < a0 ∧ ∀ m3, m3 = zwr m2 a0 9 (w32 ((w32 ((m1 a0 9) * 10)) + (w32 (r2 - 48)))) →
        kd h2 a0 = 8 ∧ kd h2 a0 = 8 ∧ 0 < a0 ∧ ∀ m4, m4 = zwr m3 a0 6 (w32 ((m3 a0 6) + 1)) →
        q_Rd_scanInt_0 d a0 m4 h2 Q)))))) : q_Rd_scanInt_0 d a0 m h Q := zvc_ok zc_Rd_scanInt zm_Rd_scanInt 53 (fun _ => rfl) H
set_option maxRecDepth 100000 in
set_option maxHeartbeats 8000000 in
theorem s_Rd_scanInt_75 (d : Nat) (a0 : Int) (m : zM) (h : zH) (Q : zQ) (H :
  kd h a0 = 8 ∧ kd h a0 = 8 ∧ ((w32 ((m a0 6) - (m a0 7))) ≤ 4 →
    kd h a0 = 8 ∧ 0 < a0 ∧ ∀ m1, m1 = zwr m a0 8 3 →
    Q none m1 h) ∧
  (¬ ((w32 ((m a0 6) - (m a0 7))) ≤ 4) →
    kd h a0 = 8 ∧ 0 < a0 ∧ ∀ m1, m1 = zwr m a0 8 0 →
    Q none m1 h)) : q_Rd_scanInt_75 d a0 m h Q := zvc_ok zc_Rd_scanInt zm_Rd_scanInt 53 (fun _ => rfl) H
theorem e_Rd_scanInt (d : Nat) (a0 : Int) (m : zM) (h : zH) (Q : zQ) (H : q_Rd_scanInt_0 d a0 m h Q) : zcal WP (d + 1) n_Rd_scanInt [.inr (.inr a0)] m h Q := zcal_mk rfl H
def zm_Rd_scanSign : Nat → Option (List Bool) := fun pc => bif Nat.beq pc 30 then some [true, true, false] else (bif Nat.beq pc 138 then some [true, true, true] else (bif Nat.beq pc 176 then some [true, false, true] else (none)))
abbrev q_Rd_scanSign_0 (d : Nat) (a0 : Int) (m : zM) (h : zH) (Q : zQ) : Prop := WP d n_Rd_scanSign 0 [some (.inr (.inr a0)), none, none] [] m h Q
abbrev q_Rd_scanSign_30 (d : Nat) (a0 a1 s0 : Int) (m : zM) (h : zH) (Q : zQ) : Prop := WP d n_Rd_scanSign 30 [some (.inr (.inr a0)), some (.inl a1), none] [.inl s0] m h Q
abbrev q_Rd_scanSign_138 (d : Nat) (a0 a1 a2 : Int) (m : zM) (h : zH) (Q : zQ) : Prop := WP d n_Rd_scanSign 138 [some (.inr (.inr a0)), some (.inl a1), some (.inl a2)] [] m h Q
abbrev q_Rd_scanSign_176 (d : Nat) (a0 a2 s0 s1 : Int) (m : zM) (h : zH) (Q : zQ) : Prop := WP d n_Rd_scanSign 176 [some (.inr (.inr a0)), none, some (.inl a2)] [.inl s0, .inr (.inr s1)] m h Q
set_option maxRecDepth 100000 in
set_option maxHeartbeats 8000000 in
theorem s_Rd_scanSign_0 (d : Nat) (a0 : Int) (m : zM) (h : zH) (Q : zQ) (H :
  kd h a0 = 8 ∧ kd h a0 = 8 ∧ zcal WP d n_Rd_byteAt [.inr (.inr a0), .inl (m a0 6)] m h (zk1 fun r1 m1 h1 =>
  kd h1 a0 = 8 ∧ kd h1 a0 = 8 ∧ zcal WP d n_Rd_byteAt [.inr (.inr a0), .inl (w32 ((m1 a0 6) + 1))] m1 h1 (zk1 fun r2 m2 h2 =>
  (r2 ≠ 61 →
    q_Rd_scanSign_30 d a0 (w16 r1) 0 m2 h2 Q) ∧
  (¬ (r2 ≠ 61) →
    q_Rd_scanSign_30 d a0 (w16 r1) 1 m2 h2 Q)))) : q_Rd_scanSign_0 d a0 m h Q := zvc_ok zc_Rd_scanSign zm_Rd_scanSign 103 (fun _ => rfl) H
set_option maxRecDepth 100000 in
set_option maxHeartbeats 8000000 in
theorem s_Rd_scanSign_30 (d : Nat) (a0 a1 s0 : Int) (m : zM) (h : zH) (Q : zQ) (H :
  kd h a0 = 8 ∧ kd h a0 = 8 ∧ 0 < a0 ∧ ∀ m1, m1 = zwr m a0 6 (w32 ((m a0 6) + 1)) →
  kd h a0 = 8 ∧ 0 < a0 ∧ ∀ m2, m2 = zwr m1 a0 8 0 →
  kd h ((-6)) = 14 ∧ zcal WP d n_Js_indexOf1 [.inr (.inr ((-6))), .inl a1] m2 h (zk1 fun r3 m3 h3 =>
  kd h3 a0 = 8 ∧ 0 < a0 ∧ ∀ m4, m4 = zwr m3 a0 9 r3 →
  kd h3 a0 = 8 ∧ ((m4 a0 9) < 0 →
    (a1 ≠ 59 →
      (a1 ≠ 40 →
        (a1 ≠ 41 →
          (a1 = 60 →
            q_Rd_scanSign_138 d a0 a1 s0 m4 h3 Q) ∧
          (¬ (a1 = 60) →
            (s0 = 0 →
              Q none m4 h3) ∧
            (¬ (s0 = 0) →
              (a1 = 61 →
                q_Rd_scanSign_138 d a0 a1 s0 m4 h3 Q) ∧
              (¬ (a1 = 61) →
                (a1 ≠ 33 →
                  Q none m4 h3) ∧
                (¬ (a1 ≠ 33) →
                  q_Rd_scanSign_138 d a0 a1 s0 m4 h3 Q))))) ∧
        (¬ (a1 ≠ 41) →
          kd h3 a0 = 8 ∧ 0 < a0 ∧ ∀ m5, m5 = zwr m4 a0 8 6 →
          Q none m5 h3)) ∧
      (¬ (a1 ≠ 40) →
        kd h3 a0 = 8 ∧ 0 < a0 ∧ ∀ m5, m5 = zwr m4 a0 8 5 →
        Q none m5 h3)) ∧
    (¬ (a1 ≠ 59) →
      kd h3 a0 = 8 ∧ 0 < a0 ∧ ∀ m5, m5 = zwr m4 a0 8 7 →
      Q none m5 h3)) ∧
  (¬ ((m4 a0 9) < 0) →
    kd h3 a0 = 8 ∧ 0 < a0 ∧ ∀ m5, m5 = zwr m4 a0 8 8 →
    Q none m5 h3))) : q_Rd_scanSign_30 d a0 a1 s0 m h Q := zvc_ok zc_Rd_scanSign zm_Rd_scanSign 103 (fun _ => rfl) H
set_option maxRecDepth 100000 in
set_option maxHeartbeats 8000000 in
theorem s_Rd_scanSign_138 (d : Nat) (a0 a1 a2 : Int) (m : zM) (h : zH) (Q : zQ) (H :
  kd h a0 = 8 ∧ 0 < a0 ∧ ∀ m1, m1 = zwr m a0 8 9 →
  (a1 ≠ 61 →
    (a1 ≠ 33 →
      (a2 = 0 →
        q_Rd_scanSign_176 d a0 a2 6 a0 m1 h Q) ∧
      (¬ (a2 = 0) →
        q_Rd_scanSign_176 d a0 a2 7 a0 m1 h Q)) ∧
    (¬ (a1 ≠ 33) →
      q_Rd_scanSign_176 d a0 a2 5 a0 m1 h Q)) ∧
  (¬ (a1 ≠ 61) →
    q_Rd_scanSign_176 d a0 a2 4 a0 m1 h Q)) : q_Rd_scanSign_138 d a0 a1 a2 m h Q := zvc_ok zc_Rd_scanSign zm_Rd_scanSign 103 (fun _ => rfl) H
set_option maxRecDepth 100000 in
set_option maxHeartbeats 8000000 in
theorem s_Rd_scanSign_176 (d : Nat) (a0 a2 s0 s1 : Int) (m : zM) (h : zH) (Q : zQ) (H :
  kd h s1 = 8 ∧ 0 < s1 ∧ ∀ m1, m1 = zwr m s1 9 s0 →
  kd h a0 = 8 ∧ (a2 = 0 →
    kd h a0 = 8 ∧ 0 < a0 ∧ ∀ m2, m2 = zwr m1 a0 6 (w32 ((m1 a0 6) + 0)) →
    Q none m2 h) ∧
  (¬ (a2 = 0) →
    kd h a0 = 8 ∧ 0 < a0 ∧ ∀ m2, m2 = zwr m1 a0 6 (w32 ((m1 a0 6) + 1)) →
    Q none m2 h)) : q_Rd_scanSign_176 d a0 a2 s0 s1 m h Q := zvc_ok zc_Rd_scanSign zm_Rd_scanSign 103 (fun _ => rfl) H
theorem e_Rd_scanSign (d : Nat) (a0 : Int) (m : zM) (h : zH) (Q : zQ) (H : q_Rd_scanSign_0 d a0 m h Q) : zcal WP (d + 1) n_Rd_scanSign [.inr (.inr a0)] m h Q := zcal_mk rfl H
def zm_Rd_judge : Nat → Option (List Bool) := fun pc => bif Nat.beq pc 27 then some [true, false] else (bif Nat.beq pc 48 then some [true, false] else (bif Nat.beq pc 65 then some [false, false] else (none)))
abbrev q_Rd_judge_0 (d : Nat) (a0 : Int) (m : zM) (h : zH) (Q : zQ) : Prop := WP d n_Rd_judge 0 [some (.inr (.inr a0)), none] [] m h Q
abbrev q_Rd_judge_27 (d : Nat) (a0 : Int) (m : zM) (h : zH) (Q : zQ) : Prop := WP d n_Rd_judge 27 [some (.inr (.inr a0)), none] [] m h Q
abbrev q_Rd_judge_48 (d : Nat) (a0 : Int) (m : zM) (h : zH) (Q : zQ) : Prop := WP d n_Rd_judge 48 [some (.inr (.inr a0)), none] [] m h Q
abbrev q_Rd_judge_65 (d : Nat) (m : zM) (h : zH) (Q : zQ) : Prop := WP d n_Rd_judge 65 [none, none] [] m h Q
set_option maxRecDepth 100000 in
set_option maxHeartbeats 8000000 in
theorem s_Rd_judge_0 (d : Nat) (a0 : Int) (m : zM) (h : zH) (Q : zQ) (H :
  kd h a0 = 8 ∧ zcal WP d n_Rd_goesOn [.inr (.inr a0)] m h (zk1 fun r1 m1 h1 =>
  (r1 ≠ 0 →
    kd h1 a0 = 8 ∧ ((m1 a0 8) = 1 →
      q_Rd_judge_27 d a0 m1 h1 Q) ∧
    (¬ ((m1 a0 8) = 1) →
      kd h1 a0 = 8 ∧ ((400 : Int) ≤ (m1 a0 11) →
        q_Rd_judge_65 d m1 h1 Q) ∧
      (¬ ((400 : Int) ≤ (m1 a0 11)) →
        q_Rd_judge_27 d a0 m1 h1 Q))) ∧
  (¬ (r1 ≠ 0) →
    Q (some (.inl (1 : Int))) m1 h1))) : q_Rd_judge_0 d a0 m h Q := zvc_ok zc_Rd_judge zm_Rd_judge 41 (fun _ => rfl) H
set_option maxRecDepth 100000 in
set_option maxHeartbeats 8000000 in
theorem s_Rd_judge_27 (d : Nat) (a0 : Int) (m : zM) (h : zH) (Q : zQ) (H :
  kd h a0 = 8 ∧ ((m a0 8) ≠ 14 →
    q_Rd_judge_48 d a0 m h Q) ∧
  (¬ ((m a0 8) ≠ 14) →
    kd h a0 = 8 ∧ kd h (m a0 3) = 10 ∧ ((24 : Int) ≤ (m (m a0 3) 7) →
      q_Rd_judge_65 d m h Q) ∧
    (¬ ((24 : Int) ≤ (m (m a0 3) 7)) →
      q_Rd_judge_48 d a0 m h Q))) : q_Rd_judge_27 d a0 m h Q := zvc_ok zc_Rd_judge zm_Rd_judge 41 (fun _ => rfl) H
set_option maxRecDepth 100000 in
set_option maxHeartbeats 8000000 in
theorem s_Rd_judge_48 (d : Nat) (a0 : Int) (m : zM) (h : zH) (Q : zQ) (H :
  kd h a0 = 8 ∧ ((m a0 8) ≠ 5 →
    ((0 : Int) = 0 →
      Q (some (.inl (0 : Int))) m h) ∧
    (¬ ((0 : Int) = 0) →
      Q (some (.inl (2 : Int))) m h)) ∧
  (¬ ((m a0 8) ≠ 5) →
    kd h a0 = 8 ∧ ((m a0 14) < 6 →
      ((0 : Int) = 0 →
        Q (some (.inl (0 : Int))) m h) ∧
      (¬ ((0 : Int) = 0) →
        Q (some (.inl (2 : Int))) m h)) ∧
    (¬ ((m a0 14) < 6) →
      q_Rd_judge_65 d m h Q))) : q_Rd_judge_48 d a0 m h Q := zvc_ok zc_Rd_judge zm_Rd_judge 41 (fun _ => rfl) H
set_option maxRecDepth 100000 in
set_option maxHeartbeats 8000000 in
theorem s_Rd_judge_65 (d : Nat) (m : zM) (h : zH) (Q : zQ) (H :
  ((1 : Int) = 0 →
    Q (some (.inl (0 : Int))) m h) ∧
  (¬ ((1 : Int) = 0) →
    Q (some (.inl (2 : Int))) m h)) : q_Rd_judge_65 d m h Q := zvc_ok zc_Rd_judge zm_Rd_judge 41 (fun _ => rfl) H
theorem e_Rd_judge (d : Nat) (a0 : Int) (m : zM) (h : zH) (Q : zQ) (H : q_Rd_judge_0 d a0 m h Q) : zcal WP (d + 1) n_Rd_judge [.inr (.inr a0)] m h Q := zcal_mk rfl H
def zm_Rd_goesOn : Nat → Option (List Bool) := fun pc => bif Nat.beq pc 29 then some [true, false] else (none)
abbrev q_Rd_goesOn_0 (d : Nat) (a0 : Int) (m : zM) (h : zH) (Q : zQ) : Prop := WP d n_Rd_goesOn 0 [some (.inr (.inr a0)), none] [] m h Q
abbrev q_Rd_goesOn_29 (d : Nat) (a0 s0 : Int) (m : zM) (h : zH) (Q : zQ) : Prop := WP d n_Rd_goesOn 29 [some (.inr (.inr a0)), none] [.inl s0] m h Q
set_option maxRecDepth 100000 in
set_option maxHeartbeats 8000000 in
theorem s_Rd_goesOn_0 (d : Nat) (a0 : Int) (m : zM) (h : zH) (Q : zQ) (H :
  kd h a0 = 8 ∧ ((m a0 8) = 3 →
    q_Rd_goesOn_29 d a0 1 m h Q) ∧
  (¬ ((m a0 8) = 3) →
    kd h a0 = 8 ∧ ((m a0 8) = 4 →
      q_Rd_goesOn_29 d a0 1 m h Q) ∧
    (¬ ((m a0 8) = 4) →
      kd h a0 = 8 ∧ ((m a0 8) ≠ 5 →
        q_Rd_goesOn_29 d a0 0 m h Q) ∧
      (¬ ((m a0 8) ≠ 5) →
        q_Rd_goesOn_29 d a0 1 m h Q)))) : q_Rd_goesOn_0 d a0 m h Q := zvc_ok zc_Rd_goesOn zm_Rd_goesOn 95 (fun _ => rfl) H
set_option maxRecDepth 100000 in
set_option maxHeartbeats 8000000 in
theorem s_Rd_goesOn_29 (d : Nat) (a0 s0 : Int) (m : zM) (h : zH) (Q : zQ) (H :
  kd h a0 = 8 ∧ ((m a0 12) = 0 →
    kd h a0 = 8 ∧ ((m a0 8) = 13 →
      ((1 : Int) = 0 ∨ (1 : Int) = 1) ∧ Q (some (.inl (1 : Int))) m h) ∧
    (¬ ((m a0 8) = 13) →
      kd h a0 = 8 ∧ ((m a0 8) = 14 →
        ((1 : Int) = 0 ∨ (1 : Int) = 1) ∧ Q (some (.inl (1 : Int))) m h) ∧
      (¬ ((m a0 8) = 14) →
        kd h a0 = 8 ∧ ((m a0 8) ≠ 1 →
          ((0 : Int) = 0 ∨ (0 : Int) = 1) ∧ Q (some (.inl (0 : Int))) m h) ∧
        (¬ ((m a0 8) ≠ 1) →
          ((1 : Int) = 0 ∨ (1 : Int) = 1) ∧ Q (some (.inl (1 : Int))) m h)))) ∧
  (¬ (m a0 12) = 0 →
  ((m a0 12) = 1 →
    kd h a0 = 8 ∧ ((m a0 8) ≠ 3 →
      ((0 : Int) = 0 ∨ (0 : Int) = 1) ∧ Q (some (.inl (0 : Int))) m h) ∧
    (¬ ((m a0 8) ≠ 3) →
      ((1 : Int) = 0 ∨ (1 : Int) = 1) ∧ Q (some (.inl (1 : Int))) m h)) ∧
  (¬ (m a0 12) = 1 →
  ((m a0 12) = 2 →
    kd h a0 = 8 ∧ ((m a0 8) ≠ 7 →
      ((0 : Int) = 0 ∨ (0 : Int) = 1) ∧ Q (some (.inl (0 : Int))) m h) ∧
    (¬ ((m a0 8) ≠ 7) →
      ((1 : Int) = 0 ∨ (1 : Int) = 1) ∧ Q (some (.inl (1 : Int))) m h)) ∧
  (¬ (m a0 12) = 2 →
  ((m a0 12) = 3 →
    kd h a0 = 8 ∧ ((m a0 8) = 14 →
      ((1 : Int) = 0 ∨ (1 : Int) = 1) ∧ Q (some (.inl (1 : Int))) m h) ∧
    (¬ ((m a0 8) = 14) →
      kd h a0 = 8 ∧ ((m a0 8) ≠ 1 →
        ((0 : Int) = 0 ∨ (0 : Int) = 1) ∧ Q (some (.inl (0 : Int))) m h) ∧
      (¬ ((m a0 8) ≠ 1) →
        ((1 : Int) = 0 ∨ (1 : Int) = 1) ∧ Q (some (.inl (1 : Int))) m h))) ∧
  (¬ (m a0 12) = 3 →
  ((m a0 12) = 4 →
    kd h a0 = 8 ∧ ((m a0 8) ≠ 2 →
      ((0 : Int) = 0 ∨ (0 : Int) = 1) ∧ Q (some (.inl (0 : Int))) m h) ∧
    (¬ ((m a0 8) ≠ 2) →
      ((1 : Int) = 0 ∨ (1 : Int) = 1) ∧ Q (some (.inl (1 : Int))) m h)) ∧
  (¬ (m a0 12) = 4 →
  ((m a0 12) = 5 →
    kd h a0 = 8 ∧ ((m a0 8) ≠ 12 →
      ((0 : Int) = 0 ∨ (0 : Int) = 1) ∧ Q (some (.inl (0 : Int))) m h) ∧
    (¬ ((m a0 8) ≠ 12) →
      ((1 : Int) = 0 ∨ (1 : Int) = 1) ∧ Q (some (.inl (1 : Int))) m h)) ∧
  (¬ (m a0 12) = 5 →
  ((m a0 12) = 6 →
    kd h a0 = 8 ∧ ((m a0 8) = 10 →
      ((1 : Int) = 0 ∨ (1 : Int) = 1) ∧ Q (some (.inl (1 : Int))) m h) ∧
    (¬ ((m a0 8) = 10) →
      (s0 = 0 →
        ((0 : Int) = 0 ∨ (0 : Int) = 1) ∧ Q (some (.inl (0 : Int))) m h) ∧
      (¬ (s0 = 0) →
        ((1 : Int) = 0 ∨ (1 : Int) = 1) ∧ Q (some (.inl (1 : Int))) m h))) ∧
  (¬ (m a0 12) = 6 →
  ((m a0 12) = 7 →
    (s0 = 0 ∨ s0 = 1) ∧ Q (some (.inl s0)) m h) ∧
  (¬ (m a0 12) = 7 →
    kd h a0 = 8 ∧ zcal WP d n_Rd_goesOnBehindUnit [.inr (.inr a0)] m h (zk1 fun r1 m1 h1 =>
    (r1 = 0 ∨ r1 = 1) ∧ Q (some (.inl r1)) m1 h1)))))))))) : q_Rd_goesOn_29 d a0 s0 m h Q := zvc_ok zc_Rd_goesOn zm_Rd_goesOn 95 (fun _ => rfl) H
theorem e_Rd_goesOn (d : Nat) (a0 : Int) (m : zM) (h : zH) (Q : zQ) (H : q_Rd_goesOn_0 d a0 m h Q) : zcal WP (d + 1) n_Rd_goesOn [.inr (.inr a0)] m h Q := zcal_mk rfl H
def zm_Rd_goesOnBehindUnit : Nat → Option (List Bool) := fun pc => none
abbrev q_Rd_goesOnBehindUnit_0 (d : Nat) (a0 : Int) (m : zM) (h : zH) (Q : zQ) : Prop := WP d n_Rd_goesOnBehindUnit 0 [some (.inr (.inr a0))] [] m h Q
set_option maxRecDepth 100000 in
set_option maxHeartbeats 8000000 in
theorem s_Rd_goesOnBehindUnit_0 (d : Nat) (a0 : Int) (m : zM) (h : zH) (Q : zQ) (H :
  kd h a0 = 8 ∧ ((m a0 8) ≠ 8 →
    kd h a0 = 8 ∧ ((m a0 14) ≤ 0 →
      kd h a0 = 8 ∧ ((m a0 13) ≠ 0 →
        kd h a0 = 8 ∧ ((m a0 13) ≠ 1 →
          kd h a0 = 8 ∧ ((m a0 8) = 11 →
            ((1 : Int) = 0 ∨ (1 : Int) = 1) ∧ Q (some (.inl (1 : Int))) m h) ∧
          (¬ ((m a0 8) = 11) →
            kd h a0 = 8 ∧ ((m a0 8) ≠ 7 →
              ((0 : Int) = 0 ∨ (0 : Int) = 1) ∧ Q (some (.inl (0 : Int))) m h) ∧
            (¬ ((m a0 8) ≠ 7) →
              ((1 : Int) = 0 ∨ (1 : Int) = 1) ∧ Q (some (.inl (1 : Int))) m h))) ∧
        (¬ ((m a0 13) ≠ 1) →
          kd h a0 = 8 ∧ ((m a0 8) ≠ 9 →
            ((0 : Int) = 0 ∨ (0 : Int) = 1) ∧ Q (some (.inl (0 : Int))) m h) ∧
          (¬ ((m a0 8) ≠ 9) →
            ((1 : Int) = 0 ∨ (1 : Int) = 1) ∧ Q (some (.inl (1 : Int))) m h))) ∧
      (¬ ((m a0 13) ≠ 0) →
        kd h a0 = 8 ∧ ((m a0 8) = 12 →
          ((1 : Int) = 0 ∨ (1 : Int) = 1) ∧ Q (some (.inl (1 : Int))) m h) ∧
        (¬ ((m a0 8) = 12) →
          kd h a0 = 8 ∧ ((m a0 8) ≠ 7 →
            ((0 : Int) = 0 ∨ (0 : Int) = 1) ∧ Q (some (.inl (0 : Int))) m h) ∧
          (¬ ((m a0 8) ≠ 7) →
            ((1 : Int) = 0 ∨ (1 : Int) = 1) ∧ Q (some (.inl (1 : Int))) m h)))) ∧
    (¬ ((m a0 14) ≤ 0) →
      kd h a0 = 8 ∧ ((m a0 8) ≠ 6 →
        ((0 : Int) = 0 ∨ (0 : Int) = 1) ∧ Q (some (.inl (0 : Int))) m h) ∧
      (¬ ((m a0 8) ≠ 6) →
        ((1 : Int) = 0 ∨ (1 : Int) = 1) ∧ Q (some (.inl (1 : Int))) m h))) ∧
  (¬ ((m a0 8) ≠ 8) →
    ((1 : Int) = 0 ∨ (1 : Int) = 1) ∧ Q (some (.inl (1 : Int))) m h)) : q_Rd_goesOnBehindUnit_0 d a0 m h Q := zvc_ok zc_Rd_goesOnBehindUnit zm_Rd_goesOnBehindUnit 57 (fun _ => rfl) H
theorem e_Rd_goesOnBehindUnit (d : Nat) (a0 : Int) (m : zM) (h : zH) (Q : zQ) (H : q_Rd_goesOnBehindUnit_0 d a0 m h Q) : zcal WP (d + 1) n_Rd_goesOnBehindUnit [.inr (.inr a0)] m h Q := zcal_mk rfl H
def zm_Rd_take : Nat → Option (List Bool) := fun pc => none
abbrev q_Rd_take_0 (d : Nat) (a0 : Int) (m : zM) (h : zH) (Q : zQ) : Prop := WP d n_Rd_take 0 [some (.inr (.inr a0))] [] m h Q
set_option maxRecDepth 100000 in
set_option maxHeartbeats 8000000 in
theorem s_Rd_take_0 (d : Nat) (a0 : Int) (m : zM) (h : zH) (Q : zQ) (H :
  kd h a0 = 8 ∧ kd h a0 = 8 ∧ 0 < a0 ∧ ∀ m1, m1 = zwr m a0 11 (w32 ((m a0 11) + 1)) →
  kd h a0 = 8 ∧ ((m1 a0 12) = 1 →
    kd h a0 = 8 ∧ kd h a0 = 8 ∧ kd h (m1 a0 3) = 10 ∧ 0 < (m1 a0 3) ∧ ∀ m2, m2 = zwr m1 (m1 a0 3) 8 (m1 a0 9) →
    kd h a0 = 8 ∧ kd h a0 = 8 ∧ 0 < a0 ∧ ∀ m3, m3 = zwr m2 a0 15 (m2 a0 7) →
    kd h a0 = 8 ∧ 0 < a0 ∧ ∀ m4, m4 = zwr m3 a0 12 2 →
    Q none m4 h) ∧
  (¬ (m1 a0 12) = 1 →
  ((m1 a0 12) = 2 →
    kd h a0 = 8 ∧ 0 < a0 ∧ ∀ m2, m2 = zwr m1 a0 12 3 →
    Q none m2 h) ∧
  (¬ (m1 a0 12) = 2 →
  ((m1 a0 12) = 3 →
    kd h a0 = 8 ∧ zcal WP d n_Rd_takeFirst [.inr (.inr a0)] m1 h (zk0 fun m2 h2 =>
    Q none m2 h2)) ∧
  (¬ (m1 a0 12) = 3 →
  ((m1 a0 12) = 4 →
    kd h a0 = 8 ∧ zcal WP d n_Rd_takeName [.inr (.inr a0)] m1 h (zk0 fun m2 h2 =>
    Q none m2 h2)) ∧
  (¬ (m1 a0 12) = 4 →
  ((m1 a0 12) = 5 →
    kd h a0 = 8 ∧ zcal WP d n_Rd_awaitLiteral [.inr (.inr a0)] m1 h (zk0 fun m2 h2 =>
    Q none m2 h2)) ∧
  (¬ (m1 a0 12) = 5 →
  ((m1 a0 12) = 6 →
    kd h a0 = 8 ∧ zcal WP d n_Rd_takeUnit [.inr (.inr a0)] m1 h (zk0 fun m2 h2 =>
    Q none m2 h2)) ∧
  (¬ (m1 a0 12) = 6 →
  ((m1 a0 12) = 7 →
    kd h a0 = 8 ∧ zcal WP d n_Rd_takeUnit [.inr (.inr a0)] m1 h (zk0 fun m2 h2 =>
    Q none m2 h2)) ∧
  (¬ (m1 a0 12) = 7 →
  ((m1 a0 12) = 8 →
    kd h a0 = 8 ∧ zcal WP d n_Rd_takeBehindUnit [.inr (.inr a0)] m1 h (zk0 fun m2 h2 =>
    Q none m2 h2)) ∧
  (¬ (m1 a0 12) = 8 →
    kd h a0 = 8 ∧ zcal WP d n_Rd_takeFirst [.inr (.inr a0)] m1 h (zk0 fun m2 h2 =>
    Q none m2 h2)))))))))) : q_Rd_take_0 d a0 m h Q := zvc_ok zc_Rd_take zm_Rd_take 42 (fun _ => rfl) H
theorem e_Rd_take (d : Nat) (a0 : Int) (m : zM) (h : zH) (Q : zQ) (H : q_Rd_take_0 d a0 m h Q) : zcal WP (d + 1) n_Rd_take [.inr (.inr a0)] m h Q := zcal_mk rfl H
def zm_Rd_takeFirst : Nat → Option (List Bool) := fun pc => none
abbrev q_Rd_takeFirst_0 (d : Nat) (a0 : Int) (m : zM) (h : zH) (Q : zQ) : Prop := WP d n_Rd_takeFirst 0 [some (.inr (.inr a0))] [] m h Q
set_option maxRecDepth 100000 in
set_option maxHeartbeats 8000000 in
theorem s_Rd_takeFirst_0 (d : Nat) (a0 : Int) (m : zM) (h : zH) (Q : zQ) (H :
  kd h a0 = 8 ∧ ((m a0 8) ≠ 13 →
    kd h a0 = 8 ∧ ((m a0 8) ≠ 14 →
      Q none m h) ∧
    (¬ ((m a0 8) ≠ 14) →
      kd h a0 = 8 ∧ kd h a0 = 8 ∧ kd h (m a0 3) = 10 ∧ zcal WP d n_Tx_openRule [.inr (.inr (m a0 3)), .inl (m a0 9)] m h (zk0 fun m1 h1 =>
      kd h1 a0 = 8 ∧ 0 < a0 ∧ ∀ m2, m2 = zwr m1 a0 12 4 →
      Q none m2 h1))) ∧
  (¬ ((m a0 8) ≠ 13) →
    kd h a0 = 8 ∧ 0 < a0 ∧ ∀ m1, m1 = zwr m a0 12 1 →
    Q none m1 h)) : q_Rd_takeFirst_0 d a0 m h Q := zvc_ok zc_Rd_takeFirst zm_Rd_takeFirst 22 (fun _ => rfl) H
theorem e_Rd_takeFirst (d : Nat) (a0 : Int) (m : zM) (h : zH) (Q : zQ) (H : q_Rd_takeFirst_0 d a0 m h Q) : zcal WP (d + 1) n_Rd_takeFirst [.inr (.inr a0)] m h Q := zcal_mk rfl H
def zm_Rd_takeName : Nat → Option (List Bool) := fun pc => none
abbrev q_Rd_takeName_0 (d : Nat) (a0 : Int) (m : zM) (h : zH) (Q : zQ) : Prop := WP d n_Rd_takeName 0 [some (.inr (.inr a0)), none] [] m h Q
set_option maxRecDepth 100000 in
set_option maxHeartbeats 8000000 in
theorem s_Rd_takeName_0 (d : Nat) (a0 : Int) (m : zM) (h : zH) (Q : zQ) (H :
  kd h a0 = 8 ∧ kd h a0 = 8 ∧ kd h (m a0 3) = 10 ∧ zcal WP d n_Tx_nameRule [.inr (.inr (m a0 3)), .inr (.inl (m a0 10))] m h (zk0 fun m1 h1 =>
  kd h1 a0 = 8 ∧ kd h1 (m1 a0 3) = 10 ∧ zcal WP d n_Tx_sortOfLatest [.inr (.inr (m1 a0 3))] m1 h1 (zk1 fun r2 m2 h2 =>
  (r2 ≠ 5 →
    (r2 = 0 →
      kd h2 a0 = 8 ∧ 0 < a0 ∧ ∀ m3, m3 = zwr m2 a0 12 5 →
      Q none m3 h2) ∧
    (¬ (r2 = 0) →
      (r2 ≠ 1 →
        kd h2 a0 = 8 ∧ 0 < a0 ∧ ∀ m3, m3 = zwr m2 a0 13 0 →
        kd h2 a0 = 8 ∧ 0 < a0 ∧ ∀ m4, m4 = zwr m3 a0 12 7 →
        Q none m4 h2) ∧
      (¬ (r2 ≠ 1) →
        kd h2 a0 = 8 ∧ 0 < a0 ∧ ∀ m3, m3 = zwr m2 a0 12 5 →
        Q none m3 h2))) ∧
  (¬ (r2 ≠ 5) →
    kd h2 a0 = 8 ∧ 0 < a0 ∧ ∀ m3, m3 = zwr m2 a0 12 2 →
    Q none m3 h2)))) : q_Rd_takeName_0 d a0 m h Q := zvc_ok zc_Rd_takeName zm_Rd_takeName 33 (fun _ => rfl) H
theorem e_Rd_takeName (d : Nat) (a0 : Int) (m : zM) (h : zH) (Q : zQ) (H : q_Rd_takeName_0 d a0 m h Q) : zcal WP (d + 1) n_Rd_takeName [.inr (.inr a0)] m h Q := zcal_mk rfl H
def zm_Rd_awaitLiteral : Nat → Option (List Bool) := fun pc => none
abbrev q_Rd_awaitLiteral_0 (d : Nat) (a0 : Int) (m : zM) (h : zH) (Q : zQ) : Prop := WP d n_Rd_awaitLiteral 0 [some (.inr (.inr a0))] [] m h Q
set_option maxRecDepth 100000 in
set_option maxHeartbeats 8000000 in
theorem s_Rd_awaitLiteral_0 (d : Nat) (a0 : Int) (m : zM) (h : zH) (Q : zQ) (H :
  kd h a0 = 8 ∧ 0 < a0 ∧ ∀ m1, m1 = zwr m a0 13 1 →
  kd h a0 = 8 ∧ 0 < a0 ∧ ∀ m2, m2 = zwr m1 a0 12 6 →
  Q none m2 h) : q_Rd_awaitLiteral_0 d a0 m h Q := zvc_ok zc_Rd_awaitLiteral zm_Rd_awaitLiteral 8 (fun _ => rfl) H
theorem e_Rd_awaitLiteral (d : Nat) (a0 : Int) (m : zM) (h : zH) (Q : zQ) (H : q_Rd_awaitLiteral_0 d a0 m h Q) : zcal WP (d + 1) n_Rd_awaitLiteral [.inr (.inr a0)] m h Q := zcal_mk rfl H
def zm_Rd_takeUnit : Nat → Option (List Bool) := fun pc => none
abbrev q_Rd_takeUnit_0 (d : Nat) (a0 : Int) (m : zM) (h : zH) (Q : zQ) : Prop := WP d n_Rd_takeUnit 0 [some (.inr (.inr a0))] [] m h Q
set_option maxRecDepth 100000 in
set_option maxHeartbeats 8000000 in
theorem s_Rd_takeUnit_0 (d : Nat) (a0 : Int) (m : zM) (h : zH) (Q : zQ) (H :
  kd h a0 = 8 ∧ ((m a0 8) ≠ 10 →
    kd h a0 = 8 ∧ ((m a0 8) ≠ 5 →
      kd h a0 = 8 ∧ kd h a0 = 8 ∧ ((m a0 8) ≠ 4 →
        kd h a0 = 8 ∧ kd h (m a0 3) = 10 ∧ zcal WP d n_Tx_emit [.inr (.inr (m a0 3)), .inl (m a0 9)] m h (zk0 fun m1 h1 =>
        kd h1 a0 = 8 ∧ 0 < a0 ∧ ∀ m2, m2 = zwr m1 a0 12 8 →
        Q none m2 h1)) ∧
      (¬ ((m a0 8) ≠ 4) →
        kd h a0 = 8 ∧ kd h (m a0 3) = 10 ∧ zcal WP d n_Tx_emit [.inr (.inr (m a0 3)), .inl (w32 (10000 + (m a0 9)))] m h (zk0 fun m1 h1 =>
        kd h1 a0 = 8 ∧ 0 < a0 ∧ ∀ m2, m2 = zwr m1 a0 12 8 →
        Q none m2 h1))) ∧
    (¬ ((m a0 8) ≠ 5) →
      kd h a0 = 8 ∧ zcal WP d n_Rd_keepWaiting [.inr (.inr a0), .inl 11] m h (zk0 fun m1 h1 =>
      kd h1 a0 = 8 ∧ kd h1 a0 = 8 ∧ 0 < a0 ∧ ∀ m2, m2 = zwr m1 a0 14 (w32 ((m1 a0 14) + 1)) →
      kd h1 a0 = 8 ∧ 0 < a0 ∧ ∀ m3, m3 = zwr m2 a0 12 7 →
      Q none m3 h1))) ∧
  (¬ ((m a0 8) ≠ 10) →
    kd h a0 = 8 ∧ zcal WP d n_Rd_keepWaiting [.inr (.inr a0), .inl 8] m h (zk0 fun m1 h1 =>
    Q none m1 h1))) : q_Rd_takeUnit_0 d a0 m h Q := zvc_ok zc_Rd_takeUnit zm_Rd_takeUnit 44 (fun _ => rfl) H
theorem e_Rd_takeUnit (d : Nat) (a0 : Int) (m : zM) (h : zH) (Q : zQ) (H : q_Rd_takeUnit_0 d a0 m h Q) : zcal WP (d + 1) n_Rd_takeUnit [.inr (.inr a0)] m h Q := zcal_mk rfl H
def zm_Rd_takeBehindUnit : Nat → Option (List Bool) := fun pc => bif Nat.beq pc 77 then some [true] else (none)
abbrev q_Rd_takeBehindUnit_0 (d : Nat) (a0 : Int) (m : zM) (h : zH) (Q : zQ) : Prop := WP d n_Rd_takeBehindUnit 0 [some (.inr (.inr a0))] [] m h Q
abbrev q_Rd_takeBehindUnit_77 (d : Nat) (a0 s0 s1 s2 : Int) (m : zM) (h : zH) (Q : zQ) : Prop := WP d n_Rd_takeBehindUnit 77 [some (.inr (.inr a0))] [.inl s0, .inl s1, .inr (.inr s2)] m h Q
set_option maxRecDepth 100000 in
set_option maxHeartbeats 8000000 in
theorem s_Rd_takeBehindUnit_0 (d : Nat) (a0 : Int) (m : zM) (h : zH) (Q : zQ) (H :
  kd h a0 = 8 ∧ ((m a0 8) = 6 →
    kd h ((-2)) = 101 ∧ (0 : Int) ≤ 11 ∧ 11 < ln h ((-2)) ∧ kd h a0 = 8 ∧ zcal WP d n_Rd_emitDownTo [.inr (.inr a0), .inl (w32 ((m ((-2)) 11) + 1))] m h (zk0 fun m1 h1 =>
    kd h1 a0 = 8 ∧ kd h1 a0 = 8 ∧ ((m1 a0 5) ≤ 0 →
      q_Rd_takeBehindUnit_77 d a0 0 (m1 a0 5) a0 m1 h1 Q) ∧
    (¬ ((m1 a0 5) ≤ 0) →
      q_Rd_takeBehindUnit_77 d a0 1 (m1 a0 5) a0 m1 h1 Q))) ∧
  (¬ (m a0 8) = 6 →
  ((m a0 8) = 7 →
    kd h a0 = 8 ∧ zcal WP d n_Rd_takeRuleEnd [.inr (.inr a0)] m h (zk0 fun m1 h1 =>
    Q none m1 h1)) ∧
  (¬ (m a0 8) = 7 →
  ((m a0 8) = 8 →
    kd h a0 = 8 ∧ zcal WP d n_Rd_takeOperator [.inr (.inr a0)] m h (zk0 fun m1 h1 =>
    kd h1 a0 = 8 ∧ 0 < a0 ∧ ∀ m2, m2 = zwr m1 a0 12 7 →
    Q none m2 h1)) ∧
  (¬ (m a0 8) = 8 →
  ((m a0 8) = 9 →
    kd h a0 = 8 ∧ zcal WP d n_Rd_takeOperator [.inr (.inr a0)] m h (zk0 fun m1 h1 =>
    kd h1 a0 = 8 ∧ 0 < a0 ∧ ∀ m2, m2 = zwr m1 a0 13 2 →
    kd h1 a0 = 8 ∧ 0 < a0 ∧ ∀ m3, m3 = zwr m2 a0 12 7 →
    Q none m3 h1)) ∧
  (¬ (m a0 8) = 9 →
  ((m a0 8) = 10 →
    kd h a0 = 8 ∧ zcal WP d n_Rd_takeRuleEnd [.inr (.inr a0)] m h (zk0 fun m1 h1 =>
    Q none m1 h1)) ∧
  (¬ (m a0 8) = 10 →
  ((m a0 8) = 11 →
    kd h a0 = 8 ∧ zcal WP d n_Rd_takeOperator [.inr (.inr a0)] m h (zk0 fun m1 h1 =>
    kd h1 a0 = 8 ∧ zcal WP d n_Rd_awaitLiteral [.inr (.inr a0)] m1 h1 (zk0 fun m2 h2 =>
    Q none m2 h2))) ∧
  (¬ (m a0 8) = 11 →
  ((m a0 8) = 12 →
    kd h ((-2)) = 101 ∧ (0 : Int) ≤ 11 ∧ 11 < ln h ((-2)) ∧ kd h a0 = 8 ∧ zcal WP d n_Rd_emitDownTo [.inr (.inr a0), .inl (m ((-2)) 11)] m h (zk0 fun m1 h1 =>
    kd h1 a0 = 8 ∧ kd h1 (m1 a0 3) = 10 ∧ zcal WP d n_Tx_openCondition [.inr (.inr (m1 a0 3))] m1 h1 (zk0 fun m2 h2 =>
    kd h2 a0 = 8 ∧ zcal WP d n_Rd_awaitLiteral [.inr (.inr a0)] m2 h2 (zk0 fun m3 h3 =>
    Q none m3 h3)))) ∧
  (¬ (m a0 8) = 12 →
    kd h a0 = 8 ∧ zcal WP d n_Rd_takeRuleEnd [.inr (.inr a0)] m h (zk0 fun m1 h1 =>
    Q none m1 h1))))))))) : q_Rd_takeBehindUnit_0 d a0 m h Q := zvc_ok zc_Rd_takeBehindUnit zm_Rd_takeBehindUnit 63 (fun _ => rfl) H
set_option maxRecDepth 100000 in
set_option maxHeartbeats 8000000 in
theorem s_Rd_takeBehindUnit_77 (d : Nat) (a0 s0 s1 s2 : Int) (m : zM) (h : zH) (Q : zQ) (H :
  kd h s2 = 8 ∧ 0 < s2 ∧ ∀ m1, m1 = zwr m s2 5 (w32 (s1 - s0)) →
  kd h a0 = 8 ∧ kd h a0 = 8 ∧ 0 < a0 ∧ ∀ m2, m2 = zwr m1 a0 14 (w32 ((m1 a0 14) - 1)) →
  Q none m2 h) : q_Rd_takeBehindUnit_77 d a0 s0 s1 s2 m h Q := zvc_ok zc_Rd_takeBehindUnit zm_Rd_takeBehindUnit 63 (fun _ => rfl) H
theorem e_Rd_takeBehindUnit (d : Nat) (a0 : Int) (m : zM) (h : zH) (Q : zQ) (H : q_Rd_takeBehindUnit_0 d a0 m h Q) : zcal WP (d + 1) n_Rd_takeBehindUnit [.inr (.inr a0)] m h Q := zcal_mk rfl H
def zm_Rd_takeRuleEnd : Nat → Option (List Bool) := fun pc => none
abbrev q_Rd_takeRuleEnd_0 (d : Nat) (a0 : Int) (m : zM) (h : zH) (Q : zQ) : Prop := WP d n_Rd_takeRuleEnd 0 [some (.inr (.inr a0))] [] m h Q
set_option maxRecDepth 100000 in
set_option maxHeartbeats 8000000 in
theorem s_Rd_takeRuleEnd_0 (d : Nat) (a0 : Int) (m : zM) (h : zH) (Q : zQ) (H :
  kd h ((-2)) = 101 ∧ (0 : Int) ≤ 11 ∧ 11 < ln h ((-2)) ∧ kd h a0 = 8 ∧ zcal WP d n_Rd_emitDownTo [.inr (.inr a0), .inl (m ((-2)) 11)] m h (zk0 fun m1 h1 =>
  kd h1 a0 = 8 ∧ ((m1 a0 13) ≠ 0 →
    kd h1 a0 = 8 ∧ kd h1 (m1 a0 3) = 10 ∧ zcal WP d n_Tx_closeRule [.inr (.inr (m1 a0 3))] m1 h1 (zk0 fun m2 h2 =>
    kd h2 a0 = 8 ∧ 0 < a0 ∧ ∀ m3, m3 = zwr m2 a0 12 3 →
    Q none m3 h2)) ∧
  (¬ ((m1 a0 13) ≠ 0) →
    kd h1 a0 = 8 ∧ kd h1 (m1 a0 3) = 10 ∧ zcal WP d n_Tx_openCondition [.inr (.inr (m1 a0 3))] m1 h1 (zk0 fun m2 h2 =>
    kd h2 a0 = 8 ∧ kd h2 (m2 a0 3) = 10 ∧ zcal WP d n_Tx_closeRule [.inr (.inr (m2 a0 3))] m2 h2 (zk0 fun m3 h3 =>
    kd h3 a0 = 8 ∧ 0 < a0 ∧ ∀ m4, m4 = zwr m3 a0 12 3 →
    Q none m4 h3))))) : q_Rd_takeRuleEnd_0 d a0 m h Q := zvc_ok zc_Rd_takeRuleEnd zm_Rd_takeRuleEnd 19 (fun _ => rfl) H
theorem e_Rd_takeRuleEnd (d : Nat) (a0 : Int) (m : zM) (h : zH) (Q : zQ) (H : q_Rd_takeRuleEnd_0 d a0 m h Q) : zcal WP (d + 1) n_Rd_takeRuleEnd [.inr (.inr a0)] m h Q := zcal_mk rfl H
def zm_Rd_takeOperator : Nat → Option (List Bool) := fun pc => none
abbrev q_Rd_takeOperator_0 (d : Nat) (a0 : Int) (m : zM) (h : zH) (Q : zQ) : Prop := WP d n_Rd_takeOperator 0 [some (.inr (.inr a0))] [] m h Q
set_option maxRecDepth 100000 in
set_option maxHeartbeats 8000000 in
theorem s_Rd_takeOperator_0 (d : Nat) (a0 : Int) (m : zM) (h : zH) (Q : zQ) (H :
  kd h a0 = 8 ∧ kd h ((-2)) = 101 ∧ (0 : Int) ≤ (m a0 9) ∧ (m a0 9) < ln h ((-2)) ∧ kd h a0 = 8 ∧ zcal WP d n_Rd_emitDownTo [.inr (.inr a0), .inl (m ((-2)) (m a0 9))] m h (zk0 fun m1 h1 =>
  kd h1 a0 = 8 ∧ kd h1 a0 = 8 ∧ zcal WP d n_Rd_keepWaiting [.inr (.inr a0), .inl (m1 a0 9)] m1 h1 (zk0 fun m2 h2 =>
  Q none m2 h2))) : q_Rd_takeOperator_0 d a0 m h Q := zvc_ok zc_Rd_takeOperator zm_Rd_takeOperator 12 (fun _ => rfl) H
theorem e_Rd_takeOperator (d : Nat) (a0 : Int) (m : zM) (h : zH) (Q : zQ) (H : q_Rd_takeOperator_0 d a0 m h Q) : zcal WP (d + 1) n_Rd_takeOperator [.inr (.inr a0)] m h Q := zcal_mk rfl H
def zm_Rd_keepWaiting : Nat → Option (List Bool) := fun pc => none
abbrev q_Rd_keepWaiting_0 (d : Nat) (a0 a1 : Int) (m : zM) (h : zH) (Q : zQ) : Prop := WP d n_Rd_keepWaiting 0 [some (.inr (.inr a0)), some (.inl a1)] [] m h Q
set_option maxRecDepth 100000 in
set_option maxHeartbeats 8000000 in
theorem s_Rd_keepWaiting_0 (d : Nat) (a0 a1 : Int) (m : zM) (h : zH) (Q : zQ) (H :
  kd h a0 = 8 ∧ ((400 : Int) ≤ (m a0 5) →
    Q none m h) ∧
  (¬ ((400 : Int) ≤ (m a0 5)) →
    kd h a0 = 8 ∧ kd h a0 = 8 ∧ kd h (m a0 4) = 101 ∧ 0 < (m a0 4) ∧ (0 : Int) ≤ (m a0 5) ∧ (m a0 5) < ln h (m a0 4) ∧ ∀ m1, m1 = zwr m (m a0 4) (m a0 5) a1 →
    kd h a0 = 8 ∧ kd h a0 = 8 ∧ 0 < a0 ∧ ∀ m2, m2 = zwr m1 a0 5 (w32 ((m1 a0 5) + 1)) →
    Q none m2 h)) : q_Rd_keepWaiting_0 d a0 a1 m h Q := zvc_ok zc_Rd_keepWaiting zm_Rd_keepWaiting 18 (fun _ => rfl) H
theorem e_Rd_keepWaiting (d : Nat) (a0 a1 : Int) (m : zM) (h : zH) (Q : zQ) (H : q_Rd_keepWaiting_0 d a0 a1 m h Q) : zcal WP (d + 1) n_Rd_keepWaiting [.inr (.inr a0), .inl a1] m h Q := zcal_mk rfl H
def zm_Rd_emitDownTo : Nat → Option (List Bool) := fun pc => bif Nat.beq pc 0 then some [true, true] else (none)
abbrev q_Rd_emitDownTo_0 (d : Nat) (a0 a1 : Int) (m : zM) (h : zH) (Q : zQ) : Prop := WP d n_Rd_emitDownTo 0 [some (.inr (.inr a0)), some (.inl a1)] [] m h Q
set_option maxRecDepth 100000 in
set_option maxHeartbeats 8000000 in
theorem s_Rd_emitDownTo_0 (d : Nat) (a0 a1 : Int) (m : zM) (h : zH) (Q : zQ) (H :
  kd h a0 = 8 ∧ ((m a0 5) ≤ 0 →
    Q none m h) ∧
  (¬ ((m a0 5) ≤ 0) →
    kd h a0 = 8 ∧ kd h a0 = 8 ∧ kd h (m a0 4) = 101 ∧ (0 : Int) ≤ (w32 ((m a0 5) - 1)) ∧ (w32 ((m a0 5) - 1)) < ln h (m a0 4) ∧ kd h ((-2)) = 101 ∧ (0 : Int) ≤ (m (m a0 4) (w32 ((m a0 5) - 1))) ∧ (m (m a0 4) (w32 ((m a0 5) - 1))) < ln h ((-2)) ∧ ((m ((-2)) (m (m a0 4) (w32 ((m a0 5) - 1)))) < a1 →
      Q none m h) ∧
    (¬ ((m ((-2)) (m (m a0 4) (w32 ((m a0 5) - 1)))) < a1) →
      kd h a0 = 8 ∧ kd h a0 = 8 ∧ 0 < a0 ∧ ∀ m1, m1 = zwr m a0 5 (w32 ((m a0 5) - 1)) →
      kd h a0 = 8 ∧ kd h a0 = 8 ∧ kd h a0 = 8 ∧ kd h (m1 a0 4) = 101 ∧ (0 : Int) ≤ (m1 a0 5) ∧ (m1 a0 5) < ln h (m1 a0 4) ∧ kd h (m1 a0 3) = 10 ∧ zcal WP d n_Tx_emit [.inr (.inr (m1 a0 3)), .inl (w32 (20000 + (m1 (m1 a0 4) (m1 a0 5))))] m1 h (zk0 fun m2 h2 =>
      q_Rd_emitDownTo_0 d a0 a1 m2 h2 Q)))) : q_Rd_emitDownTo_0 d a0 a1 m h Q := zvc_ok zc_Rd_emitDownTo zm_Rd_emitDownTo 33 (fun _ => rfl) H
theorem e_Rd_emitDownTo (d : Nat) (a0 a1 : Int) (m : zM) (h : zH) (Q : zQ) (H : q_Rd_emitDownTo_0 d a0 a1 m h Q) : zcal WP (d + 1) n_Rd_emitDownTo [.inr (.inr a0), .inl a1] m h Q := zcal_mk rfl H
def zm_St_init : Nat → Option (List Bool) := fun pc => none
abbrev q_St_init_0 (d : Nat) (a0 : Int) (m : zM) (h : zH) (Q : zQ) : Prop := WP d n_St_init 0 [some (.inr (.inr a0))] [] m h Q
set_option maxRecDepth 100000 in
set_option maxHeartbeats 8000000 in
theorem s_St_init_0 (d : Nat) (a0 : Int) (m : zM) (h : zH) (Q : zQ) (H :
  0 < a0 ∧ (0 : Int) ≤ 9 ∧ 9 ≤ (100000 : Int) ∧ ∀ m1 h1, m1 = znm m h → h1 = znh h 101 9 9 →
  kd h1 a0 = 9 ∧ 0 < a0 ∧ ∀ m2, m2 = zwr m1 a0 2 (nx h) →
  (0 : Int) ≤ 7 ∧ 7 ≤ (100000 : Int) ∧ ∀ m3 h3, m3 = znm m2 h1 → h3 = znh h1 101 7 7 →
  kd h3 a0 = 9 ∧ 0 < a0 ∧ ∀ m4, m4 = zwr m3 a0 3 (nx h1) →
  (0 : Int) ≤ 7 ∧ 7 ≤ (100000 : Int) ∧ ∀ m5 h5, m5 = znm m4 h3 → h5 = znh h3 101 7 7 →
  kd h5 a0 = 9 ∧ 0 < a0 ∧ ∀ m6, m6 = zwr m5 a0 4 (nx h3) →
  (0 : Int) ≤ 7 ∧ 7 ≤ (100000 : Int) ∧ ∀ m7 h7, m7 = znm m6 h5 → h7 = znh h5 101 7 7 →
  kd h7 a0 = 9 ∧ 0 < a0 ∧ ∀ m8, m8 = zwr m7 a0 5 (nx h5) →
  (0 : Int) ≤ 7 ∧ 7 ≤ (100000 : Int) ∧ ∀ m9 h9, m9 = znm m8 h7 → h9 = znh h7 101 7 7 →
  kd h9 a0 = 9 ∧ 0 < a0 ∧ ∀ m10, m10 = zwr m9 a0 6 (nx h7) →
  (0 : Int) ≤ 7 ∧ 7 ≤ (100000 : Int) ∧ ∀ m11 h11, m11 = znm m10 h9 → h11 = znh h9 101 7 7 →
  kd h11 a0 = 9 ∧ 0 < a0 ∧ ∀ m12, m12 = zwr m11 a0 7 (nx h9) →
  (0 : Int) ≤ 3 ∧ 3 ≤ (100000 : Int) ∧ ∀ m13 h13, m13 = znm m12 h11 → h13 = znh h11 101 3 3 →
  kd h13 a0 = 9 ∧ 0 < a0 ∧ ∀ m14, m14 = zwr m13 a0 8 (nx h11) →
  kd h13 a0 = 9 ∧ zcal WP d n_Jn_fill [.inr (.inr (m14 a0 2)), .inl ((-1))] m14 h13 (zk0 fun m15 h15 =>
  Q none m15 h15)) : q_St_init_0 d a0 m h Q := zvc_ok zc_St_init zm_St_init 36 (fun _ => rfl) H
theorem e_St_init (d : Nat) (a0 : Int) (m : zM) (h : zH) (Q : zQ) (H : q_St_init_0 d a0 m h Q) : zcal WP (d + 1) n_St_init [.inr (.inr a0)] m h Q := zcal_mk rfl H
def zm_St_join : Nat → Option (List Bool) := fun pc => bif Nat.beq pc 15 then some [true, true, true, false, false] else (bif Nat.beq pc 31 then some [true, true, true, true, false] else (bif Nat.beq pc 71 then some [true, true, false, true, false] else (none)))
abbrev q_St_join_0 (d : Nat) (a0 a1 a2 : Int) (m : zM) (h : zH) (Q : zQ) : Prop := WP d n_St_join 0 [some (.inr (.inr a0)), some (.inl a1), some (.inl a2), none, none] [] m h Q
abbrev q_St_join_15 (d : Nat) (a0 a1 a2 s0 : Int) (m : zM) (h : zH) (Q : zQ) : Prop := WP d n_St_join 15 [some (.inr (.inr a0)), some (.inl a1), some (.inl a2), none, none] [.inl s0] m h Q
abbrev q_St_join_31 (d : Nat) (a0 a1 a2 a3 s0 : Int) (m : zM) (h : zH) (Q : zQ) : Prop := WP d n_St_join 31 [some (.inr (.inr a0)), some (.inl a1), some (.inl a2), some (.inl a3), none] [.inr (.inr s0)] m h Q
abbrev q_St_join_71 (d : Nat) (a0 a1 a3 s0 s1 s2 : Int) (m : zM) (h : zH) (Q : zQ) : Prop := WP d n_St_join 71 [some (.inr (.inr a0)), some (.inl a1), none, some (.inl a3), none] [.inl s0, .inl s1, .inr (.inr s2)] m h Q
set_option maxRecDepth 100000 in
set_option maxHeartbeats 8000000 in
theorem s_St_join_0 (d : Nat) (a0 a1 a2 : Int) (m : zM) (h : zH) (Q : zQ) (H :
  (a1 = 0 →
    kd h a0 = 9 ∧ q_St_join_15 d a0 a1 a2 (m a0 0) m h Q) ∧
  (¬ (a1 = 0) →
    kd h a0 = 9 ∧ q_St_join_15 d a0 a1 a2 (m a0 1) m h Q)) : q_St_join_0 d a0 a1 a2 m h Q := zvc_ok zc_St_join zm_St_join 56 (fun _ => rfl) H
set_option maxRecDepth 100000 in
set_option maxHeartbeats 8000000 in
theorem s_St_join_15 (d : Nat) (a0 a1 a2 s0 : Int) (m : zM) (h : zH) (Q : zQ) (H :
  (a1 = 0 →
    kd h a0 = 9 ∧ q_St_join_31 d a0 a1 a2 s0 (m a0 3) m h Q) ∧
  (¬ (a1 = 0) →
    kd h a0 = 9 ∧ q_St_join_31 d a0 a1 a2 s0 (m a0 4) m h Q)) : q_St_join_15 d a0 a1 a2 s0 m h Q := zvc_ok zc_St_join zm_St_join 56 (fun _ => rfl) H
set_option maxRecDepth 100000 in
set_option maxHeartbeats 8000000 in
theorem s_St_join_31 (d : Nat) (a0 a1 a2 a3 s0 : Int) (m : zM) (h : zH) (Q : zQ) (H :
  ((7 : Int) ≤ a3 →
    Q (some (.inl ((-1)))) m h) ∧
  (¬ ((7 : Int) ≤ a3) →
    zcal WP d n_St_indexIn [.inr (.inr s0), .inl a3, .inl a2] m h (zk1 fun r1 m1 h1 =>
    (r1 = ((-1)) →
      kd h1 s0 = 101 ∧ 0 < s0 ∧ (0 : Int) ≤ a3 ∧ a3 < ln h1 s0 ∧ ∀ m2, m2 = zwr m1 s0 a3 a2 →
      kd h1 a0 = 9 ∧ (a1 = 0 →
        q_St_join_71 d a0 a1 a3 1 (m2 a0 0) a0 m2 h1 Q) ∧
      (¬ (a1 = 0) →
        q_St_join_71 d a0 a1 a3 0 (m2 a0 0) a0 m2 h1 Q)) ∧
    (¬ (r1 = ((-1))) →
      Q (some (.inl ((-1)))) m1 h1)))) : q_St_join_31 d a0 a1 a2 a3 s0 m h Q := zvc_ok zc_St_join zm_St_join 56 (fun _ => rfl) H
set_option maxRecDepth 100000 in
set_option maxHeartbeats 8000000 in
theorem s_St_join_71 (d : Nat) (a0 a1 a3 s0 s1 s2 : Int) (m : zM) (h : zH) (Q : zQ) (H :
  kd h s2 = 9 ∧ 0 < s2 ∧ ∀ m1, m1 = zwr m s2 0 (w32 (s1 + s0)) →
  kd h a0 = 9 ∧ (a1 = 0 →
    kd h a0 = 9 ∧ 0 < a0 ∧ ∀ m2, m2 = zwr m1 a0 1 (w32 ((m1 a0 1) + 0)) →
    Q (some (.inl (w32 (a3 + 1)))) m2 h) ∧
  (¬ (a1 = 0) →
    kd h a0 = 9 ∧ 0 < a0 ∧ ∀ m2, m2 = zwr m1 a0 1 (w32 ((m1 a0 1) + 1)) →
    Q (some (.inl (w32 (a3 + 1)))) m2 h)) : q_St_join_71 d a0 a1 a3 s0 s1 s2 m h Q := zvc_ok zc_St_join zm_St_join 56 (fun _ => rfl) H
theorem e_St_join (d : Nat) (a0 a1 a2 : Int) (m : zM) (h : zH) (Q : zQ) (H : q_St_join_0 d a0 a1 a2 m h Q) : zcal WP (d + 1) n_St_join [.inr (.inr a0), .inl a1, .inl a2] m h Q := zcal_mk rfl H
def zm_St_indexIn : Nat → Option (List Bool) := fun pc => bif Nat.beq pc 2 then some [true, true, true, true] else (none)
abbrev q_St_indexIn_0 (d : Nat) (a0 a1 a2 : Int) (m : zM) (h : zH) (Q : zQ) : Prop := WP d n_St_indexIn 0 [some (.inr (.inr a0)), some (.inl a1), some (.inl a2), none] [] m h Q
abbrev q_St_indexIn_2 (d : Nat) (a0 a1 a2 a3 : Int) (m : zM) (h : zH) (Q : zQ) : Prop := WP d n_St_indexIn 2 [some (.inr (.inr a0)), some (.inl a1), some (.inl a2), some (.inl a3)] [] m h Q
set_option maxRecDepth 100000 in
set_option maxHeartbeats 8000000 in
theorem s_St_indexIn_0 (d : Nat) (a0 a1 a2 : Int) (m : zM) (h : zH) (Q : zQ) (H :
  q_St_indexIn_2 d a0 a1 a2 0 m h Q) : q_St_indexIn_0 d a0 a1 a2 m h Q := zvc_ok zc_St_indexIn zm_St_indexIn 17 (fun _ => rfl) H
set_option maxRecDepth 100000 in
set_option maxHeartbeats 8000000 in
theorem s_St_indexIn_2 (d : Nat) (a0 a1 a2 a3 : Int) (m : zM) (h : zH) (Q : zQ) (H :
  (a1 ≤ a3 →
    Q (some (.inl ((-1)))) m h) ∧
  (¬ (a1 ≤ a3) →
    kd h a0 = 101 ∧ (0 : Int) ≤ a3 ∧ a3 < ln h a0 ∧ ((m a0 a3) ≠ a2 →
      q_St_indexIn_2 d a0 a1 a2 (w32 (a3 + 1)) m h Q) ∧
    (¬ ((m a0 a3) ≠ a2) →
      Q (some (.inl a3)) m h))) : q_St_indexIn_2 d a0 a1 a2 a3 m h Q := zvc_ok zc_St_indexIn zm_St_indexIn 17 (fun _ => rfl) H
theorem e_St_indexIn (d : Nat) (a0 a1 a2 : Int) (m : zM) (h : zH) (Q : zQ) (H : q_St_indexIn_0 d a0 a1 a2 m h Q) : zcal WP (d + 1) n_St_indexIn [.inr (.inr a0), .inl a1, .inl a2] m h Q := zcal_mk rfl H
def zm_St_rank : Nat → Option (List Bool) := fun pc => bif Nat.beq pc 22 then some [true, true] else (none)
abbrev q_St_rank_0 (d : Nat) (a0 : Int) (m : zM) (h : zH) (Q : zQ) : Prop := WP d n_St_rank 0 [some (.inr (.inr a0)), none] [] m h Q
abbrev q_St_rank_22 (d : Nat) (a0 a1 : Int) (m : zM) (h : zH) (Q : zQ) : Prop := WP d n_St_rank 22 [some (.inr (.inr a0)), some (.inl a1)] [] m h Q
set_option maxRecDepth 100000 in
set_option maxHeartbeats 8000000 in
theorem s_St_rank_0 (d : Nat) (a0 : Int) (m : zM) (h : zH) (Q : zQ) (H :
  kd h a0 = 9 ∧ ((m a0 0) = 0 →
    ((0 : Int) = 0 ∨ (0 : Int) = 1) ∧ Q (some (.inl (0 : Int))) m h) ∧
  (¬ ((m a0 0) = 0) →
    kd h a0 = 9 ∧ kd h a0 = 9 ∧ ((m a0 0) = (m a0 1) →
      q_St_rank_22 d a0 0 m h Q) ∧
    (¬ ((m a0 0) = (m a0 1)) →
      ((0 : Int) = 0 ∨ (0 : Int) = 1) ∧ Q (some (.inl (0 : Int))) m h))) : q_St_rank_0 d a0 m h Q := zvc_ok zc_St_rank zm_St_rank 42 (fun _ => rfl) H
set_option maxRecDepth 100000 in
set_option maxHeartbeats 8000000 in
theorem s_St_rank_22 (d : Nat) (a0 a1 : Int) (m : zM) (h : zH) (Q : zQ) (H :
  kd h a0 = 9 ∧ ((m a0 0) ≤ a1 →
    ((1 : Int) = 0 ∨ (1 : Int) = 1) ∧ Q (some (.inl (1 : Int))) m h) ∧
  (¬ ((m a0 0) ≤ a1) →
    kd h a0 = 9 ∧ kd h a0 = 9 ∧ kd h a0 = 9 ∧ kd h a0 = 9 ∧ kd h (m a0 3) = 101 ∧ (0 : Int) ≤ a1 ∧ a1 < ln h (m a0 3) ∧ zcal WP d n_St_indexIn [.inr (.inr (m a0 4)), .inl (m a0 1), .inl (m (m a0 3) a1)] m h (zk1 fun r1 m1 h1 =>
    kd h1 (m a0 5) = 101 ∧ 0 < (m a0 5) ∧ (0 : Int) ≤ a1 ∧ a1 < ln h1 (m a0 5) ∧ ∀ m2, m2 = zwr m1 (m a0 5) a1 r1 →
    kd h1 a0 = 9 ∧ kd h1 (m2 a0 5) = 101 ∧ (0 : Int) ≤ a1 ∧ a1 < ln h1 (m2 a0 5) ∧ ((m2 (m2 a0 5) a1) ≠ ((-1)) →
      q_St_rank_22 d a0 (w32 (a1 + 1)) m2 h1 Q) ∧
    (¬ ((m2 (m2 a0 5) a1) ≠ ((-1))) →
      ((0 : Int) = 0 ∨ (0 : Int) = 1) ∧ Q (some (.inl (0 : Int))) m2 h1)))) : q_St_rank_22 d a0 a1 m h Q := zvc_ok zc_St_rank zm_St_rank 42 (fun _ => rfl) H
theorem e_St_rank (d : Nat) (a0 : Int) (m : zM) (h : zH) (Q : zQ) (H : q_St_rank_0 d a0 m h Q) : zcal WP (d + 1) n_St_rank [.inr (.inr a0)] m h Q := zcal_mk rfl H
def zm_St_solve : Nat → Option (List Bool) := fun pc => bif Nat.beq pc 41 then some [true, false, true] else (none)
abbrev q_St_solve_0 (d : Nat) (a0 a1 : Int) (m : zM) (h : zH) (Q : zQ) : Prop := WP d n_St_solve 0 [some (.inr (.inr a0)), some (.inl a1), none] [] m h Q
abbrev q_St_solve_41 (d : Nat) (a0 a2 : Int) (m : zM) (h : zH) (Q : zQ) : Prop := WP d n_St_solve 41 [some (.inr (.inr a0)), none, some (.inl a2)] [] m h Q
set_option maxRecDepth 100000 in
set_option maxHeartbeats 8000000 in
theorem s_St_solve_0 (d : Nat) (a0 a1 : Int) (m : zM) (h : zH) (Q : zQ) (H :
  kd h a0 = 9 ∧ 0 < a0 ∧ ∀ m1, m1 = zwr m a0 9 a1 →
  kd h a0 = 9 ∧ kd h a0 = 9 ∧ 0 < a0 ∧ ∀ m2, m2 = zwr m1 a0 10 (w32 ((m1 a0 0) + 1)) →
  kd h a0 = 9 ∧ zcal WP d n_Jn_fill [.inr (.inr (m2 a0 8)), .inl 7] m2 h (zk0 fun m3 h3 =>
  kd h3 a0 = 9 ∧ zcal WP d n_St_tryRoads [.inr (.inr a0), .inl 0, .inl 0, .inl 0] m3 h3 (zk0 fun m4 h4 =>
  kd h4 a0 = 9 ∧ zcal WP d n_Jn_fill [.inr (.inr (m4 a0 2)), .inl ((-1))] m4 h4 (zk0 fun m5 h5 =>
  q_St_solve_41 d a0 0 m5 h5 Q)))) : q_St_solve_0 d a0 a1 m h Q := zvc_ok zc_St_solve zm_St_solve 45 (fun _ => rfl) H
set_option maxRecDepth 100000 in
set_option maxHeartbeats 8000000 in
theorem s_St_solve_41 (d : Nat) (a0 a2 : Int) (m : zM) (h : zH) (Q : zQ) (H :
  kd h a0 = 9 ∧ ((m a0 0) ≤ a2 →
    kd h a0 = 9 ∧ Q (some (.inl (m a0 10))) m h) ∧
  (¬ ((m a0 0) ≤ a2) →
    kd h a0 = 9 ∧ kd h a0 = 9 ∧ kd h (m a0 3) = 101 ∧ (0 : Int) ≤ a2 ∧ a2 < ln h (m a0 3) ∧ kd h a0 = 9 ∧ kd h (m a0 7) = 101 ∧ (0 : Int) ≤ a2 ∧ a2 < ln h (m a0 7) ∧ kd h (m a0 2) = 101 ∧ 0 < (m a0 2) ∧ (0 : Int) ≤ (m (m a0 3) a2) ∧ (m (m a0 3) a2) < ln h (m a0 2) ∧ ∀ m1, m1 = zwr m (m a0 2) (m (m a0 3) a2) (m (m a0 7) a2) →
    q_St_solve_41 d a0 (w32 (a2 + 1)) m1 h Q)) : q_St_solve_41 d a0 a2 m h Q := zvc_ok zc_St_solve zm_St_solve 45 (fun _ => rfl) H
theorem e_St_solve (d : Nat) (a0 a1 : Int) (m : zM) (h : zH) (Q : zQ) (H : q_St_solve_0 d a0 a1 m h Q) : zcal WP (d + 1) n_St_solve [.inr (.inr a0), .inl a1] m h Q := zcal_mk rfl H
def zm_St_tryRoads : Nat → Option (List Bool) := fun pc => bif Nat.beq pc 43 then some [true, true, true, true, true, false] else (bif Nat.beq pc 110 then some [true, true, true, true, true, true] else (none))
abbrev q_St_tryRoads_0 (d : Nat) (a0 a1 a2 a3 : Int) (m : zM) (h : zH) (Q : zQ) : Prop := WP d n_St_tryRoads 0 [some (.inr (.inr a0)), some (.inl a1), some (.inl a2), some (.inl a3), none, none] [] m h Q
abbrev q_St_tryRoads_43 (d : Nat) (a0 a1 a2 a3 a4 : Int) (m : zM) (h : zH) (Q : zQ) : Prop := WP d n_St_tryRoads 43 [some (.inr (.inr a0)), some (.inl a1), some (.inl a2), some (.inl a3), some (.inl a4), none] [] m h Q
abbrev q_St_tryRoads_110 (d : Nat) (a0 a1 a2 a3 a4 a5 s0 s1 s2 : Int) (m : zM) (h : zH) (Q : zQ) : Prop := WP d n_St_tryRoads 110 [some (.inr (.inr a0)), some (.inl a1), some (.inl a2), some (.inl a3), some (.inl a4), some (.inl a5)] [.inl s0, .inl s1, .inr (.inr s2)] m h Q
set_option maxRecDepth 100000 in
set_option maxHeartbeats 8000000 in
theorem s_St_tryRoads_0 (d : Nat) (a0 a1 a2 a3 : Int) (m : zM) (h : zH) (Q : zQ) (H :
  kd h a0 = 9 ∧ (a3 < (m a0 10) →
    kd h a0 = 9 ∧ (a1 < (m a0 0) →
      q_St_tryRoads_43 d a0 a1 a2 a3 0 m h Q) ∧
    (¬ (a1 < (m a0 0)) →
      kd h a0 = 9 ∧ 0 < a0 ∧ ∀ m1, m1 = zwr m a0 10 a3 →
      kd h a0 = 9 ∧ kd h a0 = 9 ∧ kd h a0 = 9 ∧ kd h (m1 a0 6) = 101 ∧ kd h (m1 a0 7) = 101 ∧ 0 < (m1 a0 6) ∧ 0 < (m1 a0 7) ∧ (m1 a0 6) ≠ (m1 a0 7) ∧ (0 : Int) ≤ (m1 a0 0) ∧ (0 : Int) ≤ 0 ∧ (0 : Int) ≤ 0 ∧ 0 + (m1 a0 0) ≤ ln h (m1 a0 6) ∧ 0 + (m1 a0 0) ≤ ln h (m1 a0 7) ∧ ∀ m2, (m2 = fun c j => if c = (m1 a0 7) ∧ 0 ≤ j ∧ j < 0 + (m1 a0 0) then m1 (m1 a0 6) (0 + (j - 0)) else m1 c j) →
      Q none m2 h)) ∧
  (¬ (a3 < (m a0 10)) →
    Q none m h)) : q_St_tryRoads_0 d a0 a1 a2 a3 m h Q := zvc_ok zc_St_tryRoads zm_St_tryRoads 84 (fun _ => rfl) H
set_option maxRecDepth 100000 in
set_option maxHeartbeats 8000000 in
theorem s_St_tryRoads_43 (d : Nat) (a0 a1 a2 a3 a4 : Int) (m : zM) (h : zH) (Q : zQ) (H :
  kd h a0 = 9 ∧ ((m a0 9) ≤ a4 →
    Q none m h) ∧
  (¬ ((m a0 9) ≤ a4) →
    (a2 < a4 →
      Q none m h) ∧
    (¬ (a2 < a4) →
      kd h a0 = 9 ∧ kd h (m a0 8) = 101 ∧ (0 : Int) ≤ a4 ∧ a4 < ln h (m a0 8) ∧ kd h a0 = 9 ∧ kd h (m a0 6) = 101 ∧ 0 < (m a0 6) ∧ (0 : Int) ≤ a1 ∧ a1 < ln h (m a0 6) ∧ ∀ m1, m1 = zwr m (m a0 6) a1 a4 →
      kd h a0 = 9 ∧ kd h a0 = 9 ∧ kd h (m1 a0 5) = 101 ∧ (0 : Int) ≤ a1 ∧ a1 < ln h (m1 a0 5) ∧ kd h (m1 a0 8) = 101 ∧ 0 < (m1 a0 8) ∧ (0 : Int) ≤ a4 ∧ a4 < ln h (m1 a0 8) ∧ ∀ m2, m2 = zwr m1 (m1 a0 8) a4 (min (m (m a0 8) a4) (m1 (m1 a0 5) a1)) →
      (a4 ≠ a2 →
        q_St_tryRoads_110 d a0 a1 a2 a3 a4 (m (m a0 8) a4) a2 (w32 (a1 + 1)) a0 m2 h Q) ∧
      (¬ (a4 ≠ a2) →
        q_St_tryRoads_110 d a0 a1 a2 a3 a4 (m (m a0 8) a4) (w32 (a2 + 1)) (w32 (a1 + 1)) a0 m2 h Q)))) : q_St_tryRoads_43 d a0 a1 a2 a3 a4 m h Q := zvc_ok zc_St_tryRoads zm_St_tryRoads 84 (fun _ => rfl) H
set_option maxRecDepth 100000 in
set_option maxHeartbeats 8000000 in
theorem s_St_tryRoads_110 (d : Nat) (a0 a1 a2 a3 a4 a5 s0 s1 s2 : Int) (m : zM) (h : zH) (Q : zQ) (H :
  kd h a0 = 9 ∧ kd h (m a0 5) = 101 ∧ (0 : Int) ≤ a1 ∧ a1 < ln h (m a0 5) ∧ ((m (m a0 5) a1) ≤ a5 →
    kd h s2 = 9 ∧ zcal WP d n_St_tryRoads [.inr (.inr s2), .inl s1, .inl s0, .inl a3] m h (zk0 fun m1 h1 =>
    kd h1 a0 = 9 ∧ kd h1 (m1 a0 8) = 101 ∧ 0 < (m1 a0 8) ∧ (0 : Int) ≤ a4 ∧ a4 < ln h1 (m1 a0 8) ∧ ∀ m2, m2 = zwr m1 (m1 a0 8) a4 a5 →
    q_St_tryRoads_43 d a0 a1 a2 a3 (w32 (a4 + 1)) m2 h1 Q)) ∧
  (¬ ((m (m a0 5) a1) ≤ a5) →
    kd h s2 = 9 ∧ zcal WP d n_St_tryRoads [.inr (.inr s2), .inl s1, .inl s0, .inl (w32 (a3 + 1))] m h (zk0 fun m1 h1 =>
    kd h1 a0 = 9 ∧ kd h1 (m1 a0 8) = 101 ∧ 0 < (m1 a0 8) ∧ (0 : Int) ≤ a4 ∧ a4 < ln h1 (m1 a0 8) ∧ ∀ m2, m2 = zwr m1 (m1 a0 8) a4 a5 →
    q_St_tryRoads_43 d a0 a1 a2 a3 (w32 (a4 + 1)) m2 h1 Q))) : q_St_tryRoads_110 d a0 a1 a2 a3 a4 a5 s0 s1 s2 m h Q := zvc_ok zc_St_tryRoads zm_St_tryRoads 84 (fun _ => rfl) H
theorem e_St_tryRoads (d : Nat) (a0 a1 a2 a3 : Int) (m : zM) (h : zH) (Q : zQ) (H : q_St_tryRoads_0 d a0 a1 a2 a3 m h Q) : zcal WP (d + 1) n_St_tryRoads [.inr (.inr a0), .inl a1, .inl a2, .inl a3] m h Q := zcal_mk rfl H
def zm_Tx_init : Nat → Option (List Bool) := fun pc => none
abbrev q_Tx_init_0 (d : Nat) (a0 : Int) (m : zM) (h : zH) (Q : zQ) : Prop := WP d n_Tx_init 0 [some (.inr (.inr a0))] [] m h Q
set_option maxRecDepth 100000 in
set_option maxHeartbeats 8000000 in
theorem s_Tx_init_0 (d : Nat) (a0 : Int) (m : zM) (h : zH) (Q : zQ) (H :
  0 < a0 ∧ (0 : Int) ≤ 400 ∧ 400 ≤ (100000 : Int) ∧ ∀ m1 h1, m1 = znm m h → h1 = znh h 101 400 400 →
  kd h1 a0 = 10 ∧ 0 < a0 ∧ ∀ m2, m2 = zwr m1 a0 0 (nx h) →
  (0 : Int) ≤ 24 ∧ 24 ≤ (100000 : Int) ∧ ∀ m3 h3, m3 = znm m2 h1 → h3 = znh h1 104 24 24 →
  kd h3 a0 = 10 ∧ 0 < a0 ∧ ∀ m4, m4 = zwr m3 a0 1 (nx h1) →
  (0 : Int) ≤ 24 ∧ 24 ≤ (100000 : Int) ∧ ∀ m5 h5, m5 = znm m4 h3 → h5 = znh h3 101 24 24 →
  kd h5 a0 = 10 ∧ 0 < a0 ∧ ∀ m6, m6 = zwr m5 a0 2 (nx h3) →
  (0 : Int) ≤ 24 ∧ 24 ≤ (100000 : Int) ∧ ∀ m7 h7, m7 = znm m6 h5 → h7 = znh h5 101 24 24 →
  kd h7 a0 = 10 ∧ 0 < a0 ∧ ∀ m8, m8 = zwr m7 a0 3 (nx h5) →
  (0 : Int) ≤ 24 ∧ 24 ≤ (100000 : Int) ∧ ∀ m9 h9, m9 = znm m8 h7 → h9 = znh h7 101 24 24 →
  kd h9 a0 = 10 ∧ 0 < a0 ∧ ∀ m10, m10 = zwr m9 a0 4 (nx h7) →
  (0 : Int) ≤ 24 ∧ 24 ≤ (100000 : Int) ∧ ∀ m11 h11, m11 = znm m10 h9 → h11 = znh h9 101 24 24 →
  kd h11 a0 = 10 ∧ 0 < a0 ∧ ∀ m12, m12 = zwr m11 a0 5 (nx h9) →
  Q none m12 h11) : q_Tx_init_0 d a0 m h Q := zvc_ok zc_Tx_init zm_Tx_init 28 (fun _ => rfl) H
theorem e_Tx_init (d : Nat) (a0 : Int) (m : zM) (h : zH) (Q : zQ) (H : q_Tx_init_0 d a0 m h Q) : zcal WP (d + 1) n_Tx_init [.inr (.inr a0)] m h Q := zcal_mk rfl H
def zm_Tx_empty : Nat → Option (List Bool) := fun pc => none
abbrev q_Tx_empty_0 (d : Nat) (a0 : Int) (m : zM) (h : zH) (Q : zQ) : Prop := WP d n_Tx_empty 0 [some (.inr (.inr a0))] [] m h Q
set_option maxRecDepth 100000 in
set_option maxHeartbeats 8000000 in
theorem s_Tx_empty_0 (d : Nat) (a0 : Int) (m : zM) (h : zH) (Q : zQ) (H :
  kd h a0 = 10 ∧ 0 < a0 ∧ ∀ m1, m1 = zwr m a0 6 0 →
  kd h a0 = 10 ∧ 0 < a0 ∧ ∀ m2, m2 = zwr m1 a0 7 0 →
  kd h a0 = 10 ∧ 0 < a0 ∧ ∀ m3, m3 = zwr m2 a0 8 0 →
  Q none m3 h) : q_Tx_empty_0 d a0 m h Q := zvc_ok zc_Tx_empty zm_Tx_empty 11 (fun _ => rfl) H
theorem e_Tx_empty (d : Nat) (a0 : Int) (m : zM) (h : zH) (Q : zQ) (H : q_Tx_empty_0 d a0 m h Q) : zcal WP (d + 1) n_Tx_empty [.inr (.inr a0)] m h Q := zcal_mk rfl H
def zm_Tx_openRule : Nat → Option (List Bool) := fun pc => none
abbrev q_Tx_openRule_0 (d : Nat) (a0 a1 : Int) (m : zM) (h : zH) (Q : zQ) : Prop := WP d n_Tx_openRule 0 [some (.inr (.inr a0)), some (.inl a1)] [] m h Q
set_option maxRecDepth 100000 in
set_option maxHeartbeats 8000000 in
theorem s_Tx_openRule_0 (d : Nat) (a0 a1 : Int) (m : zM) (h : zH) (Q : zQ) (H :
  kd h a0 = 10 ∧ ((24 : Int) ≤ (m a0 7) →
    Q none m h) ∧
  (¬ ((24 : Int) ≤ (m a0 7)) →
    kd h a0 = 10 ∧ kd h a0 = 10 ∧ kd h (m a0 2) = 101 ∧ 0 < (m a0 2) ∧ (0 : Int) ≤ (m a0 7) ∧ (m a0 7) < ln h (m a0 2) ∧ ∀ m1, m1 = zwr m (m a0 2) (m a0 7) a1 →
    kd h a0 = 10 ∧ kd h a0 = 10 ∧ kd h a0 = 10 ∧ kd h (m1 a0 3) = 101 ∧ 0 < (m1 a0 3) ∧ (0 : Int) ≤ (m1 a0 7) ∧ (m1 a0 7) < ln h (m1 a0 3) ∧ ∀ m2, m2 = zwr m1 (m1 a0 3) (m1 a0 7) (m1 a0 6) →
    kd h a0 = 10 ∧ kd h a0 = 10 ∧ kd h a0 = 10 ∧ kd h (m2 a0 4) = 101 ∧ 0 < (m2 a0 4) ∧ (0 : Int) ≤ (m2 a0 7) ∧ (m2 a0 7) < ln h (m2 a0 4) ∧ ∀ m3, m3 = zwr m2 (m2 a0 4) (m2 a0 7) (m2 a0 6) →
    kd h a0 = 10 ∧ kd h a0 = 10 ∧ kd h a0 = 10 ∧ kd h (m3 a0 5) = 101 ∧ 0 < (m3 a0 5) ∧ (0 : Int) ≤ (m3 a0 7) ∧ (m3 a0 7) < ln h (m3 a0 5) ∧ ∀ m4, m4 = zwr m3 (m3 a0 5) (m3 a0 7) (m3 a0 6) →
    kd h a0 = 10 ∧ kd h a0 = 10 ∧ 0 < a0 ∧ ∀ m5, m5 = zwr m4 a0 7 (w32 ((m4 a0 7) + 1)) →
    Q none m5 h)) : q_Tx_openRule_0 d a0 a1 m h Q := zvc_ok zc_Tx_openRule zm_Tx_openRule 39 (fun _ => rfl) H
theorem e_Tx_openRule (d : Nat) (a0 a1 : Int) (m : zM) (h : zH) (Q : zQ) (H : q_Tx_openRule_0 d a0 a1 m h Q) : zcal WP (d + 1) n_Tx_openRule [.inr (.inr a0), .inl a1] m h Q := zcal_mk rfl H
def zm_Tx_nameRule : Nat → Option (List Bool) := fun pc => none
abbrev q_Tx_nameRule_0 (d : Nat) (a0 a1 : Int) (m : zM) (h : zH) (Q : zQ) : Prop := WP d n_Tx_nameRule 0 [some (.inr (.inr a0)), some (.inr (.inl a1)), none] [] m h Q
set_option maxRecDepth 100000 in
set_option maxHeartbeats 8000000 in
theorem s_Tx_nameRule_0 (d : Nat) (a0 a1 : Int) (m : zM) (h : zH) (Q : zQ) (H :
  kd h a0 = 10 ∧ ((m a0 7) ≤ 0 →
    Q none m h) ∧
  (¬ ((m a0 7) ≤ 0) →
    kd h a0 = 10 ∧ kd h a0 = 10 ∧ kd h (m a0 1) = 104 ∧ 0 < (m a0 1) ∧ (0 : Int) ≤ (w32 ((m a0 7) - 1)) ∧ (w32 ((m a0 7) - 1)) < ln h (m a0 1) ∧ ∀ m1, m1 = zwr m (m a0 1) (w32 ((m a0 7) - 1)) a1 →
    Q none m1 h)) : q_Tx_nameRule_0 d a0 a1 m h Q := zvc_ok zc_Tx_nameRule zm_Tx_nameRule 13 (fun _ => rfl) H
theorem e_Tx_nameRule (d : Nat) (a0 a1 : Int) (m : zM) (h : zH) (Q : zQ) (H : q_Tx_nameRule_0 d a0 a1 m h Q) : zcal WP (d + 1) n_Tx_nameRule [.inr (.inr a0), .inr (.inl a1)] m h Q := zcal_mk rfl H
def zm_Tx_openCondition : Nat → Option (List Bool) := fun pc => none
abbrev q_Tx_openCondition_0 (d : Nat) (a0 : Int) (m : zM) (h : zH) (Q : zQ) : Prop := WP d n_Tx_openCondition 0 [some (.inr (.inr a0))] [] m h Q
set_option maxRecDepth 100000 in
set_option maxHeartbeats 8000000 in
theorem s_Tx_openCondition_0 (d : Nat) (a0 : Int) (m : zM) (h : zH) (Q : zQ) (H :
  kd h a0 = 10 ∧ ((m a0 7) ≤ 0 →
    Q none m h) ∧
  (¬ ((m a0 7) ≤ 0) →
    kd h a0 = 10 ∧ kd h a0 = 10 ∧ kd h a0 = 10 ∧ kd h (m a0 4) = 101 ∧ 0 < (m a0 4) ∧ (0 : Int) ≤ (w32 ((m a0 7) - 1)) ∧ (w32 ((m a0 7) - 1)) < ln h (m a0 4) ∧ ∀ m1, m1 = zwr m (m a0 4) (w32 ((m a0 7) - 1)) (m a0 6) →
    Q none m1 h)) : q_Tx_openCondition_0 d a0 m h Q := zvc_ok zc_Tx_openCondition zm_Tx_openCondition 14 (fun _ => rfl) H
theorem e_Tx_openCondition (d : Nat) (a0 : Int) (m : zM) (h : zH) (Q : zQ) (H : q_Tx_openCondition_0 d a0 m h Q) : zcal WP (d + 1) n_Tx_openCondition [.inr (.inr a0)] m h Q := zcal_mk rfl H
def zm_Tx_closeRule : Nat → Option (List Bool) := fun pc => none
abbrev q_Tx_closeRule_0 (d : Nat) (a0 : Int) (m : zM) (h : zH) (Q : zQ) : Prop := WP d n_Tx_closeRule 0 [some (.inr (.inr a0))] [] m h Q
set_option maxRecDepth 100000 in
set_option maxHeartbeats 8000000 in
theorem s_Tx_closeRule_0 (d : Nat) (a0 : Int) (m : zM) (h : zH) (Q : zQ) (H :
  kd h a0 = 10 ∧ ((m a0 7) ≤ 0 →
    Q none m h) ∧
  (¬ ((m a0 7) ≤ 0) →
    kd h a0 = 10 ∧ kd h a0 = 10 ∧ kd h a0 = 10 ∧ kd h (m a0 5) = 101 ∧ 0 < (m a0 5) ∧ (0 : Int) ≤ (w32 ((m a0 7) - 1)) ∧ (w32 ((m a0 7) - 1)) < ln h (m a0 5) ∧ ∀ m1, m1 = zwr m (m a0 5) (w32 ((m a0 7) - 1)) (m a0 6) →
    Q none m1 h)) : q_Tx_closeRule_0 d a0 m h Q := zvc_ok zc_Tx_closeRule zm_Tx_closeRule 14 (fun _ => rfl) H
theorem e_Tx_closeRule (d : Nat) (a0 : Int) (m : zM) (h : zH) (Q : zQ) (H : q_Tx_closeRule_0 d a0 m h Q) : zcal WP (d + 1) n_Tx_closeRule [.inr (.inr a0)] m h Q := zcal_mk rfl H
def zm_Tx_emit : Nat → Option (List Bool) := fun pc => none
abbrev q_Tx_emit_0 (d : Nat) (a0 a1 : Int) (m : zM) (h : zH) (Q : zQ) : Prop := WP d n_Tx_emit 0 [some (.inr (.inr a0)), some (.inl a1)] [] m h Q
set_option maxRecDepth 100000 in
set_option maxHeartbeats 8000000 in
theorem s_Tx_emit_0 (d : Nat) (a0 a1 : Int) (m : zM) (h : zH) (Q : zQ) (H :
  kd h a0 = 10 ∧ ((400 : Int) ≤ (m a0 6) →
    Q none m h) ∧
  (¬ ((400 : Int) ≤ (m a0 6)) →
    kd h a0 = 10 ∧ kd h a0 = 10 ∧ kd h (m a0 0) = 101 ∧ 0 < (m a0 0) ∧ (0 : Int) ≤ (m a0 6) ∧ (m a0 6) < ln h (m a0 0) ∧ ∀ m1, m1 = zwr m (m a0 0) (m a0 6) a1 →
    kd h a0 = 10 ∧ kd h a0 = 10 ∧ 0 < a0 ∧ ∀ m2, m2 = zwr m1 a0 6 (w32 ((m1 a0 6) + 1)) →
    Q none m2 h)) : q_Tx_emit_0 d a0 a1 m h Q := zvc_ok zc_Tx_emit zm_Tx_emit 18 (fun _ => rfl) H
theorem e_Tx_emit (d : Nat) (a0 a1 : Int) (m : zM) (h : zH) (Q : zQ) (H : q_Tx_emit_0 d a0 a1 m h Q) : zcal WP (d + 1) n_Tx_emit [.inr (.inr a0), .inl a1] m h Q := zcal_mk rfl H
def zm_Tx_sortOfLatest : Nat → Option (List Bool) := fun pc => none
abbrev q_Tx_sortOfLatest_0 (d : Nat) (a0 : Int) (m : zM) (h : zH) (Q : zQ) : Prop := WP d n_Tx_sortOfLatest 0 [some (.inr (.inr a0))] [] m h Q
set_option maxRecDepth 100000 in
set_option maxHeartbeats 8000000 in
theorem s_Tx_sortOfLatest_0 (d : Nat) (a0 : Int) (m : zM) (h : zH) (Q : zQ) (H :
  kd h a0 = 10 ∧ ((m a0 7) ≤ 0 →
    Q (some (.inl ((-1)))) m h) ∧
  (¬ ((m a0 7) ≤ 0) →
    kd h a0 = 10 ∧ kd h a0 = 10 ∧ kd h (m a0 2) = 101 ∧ (0 : Int) ≤ (w32 ((m a0 7) - 1)) ∧ (w32 ((m a0 7) - 1)) < ln h (m a0 2) ∧ Q (some (.inl (m (m a0 2) (w32 ((m a0 7) - 1))))) m h)) : q_Tx_sortOfLatest_0 d a0 m h Q := zvc_ok zc_Tx_sortOfLatest zm_Tx_sortOfLatest 14 (fun _ => rfl) H
theorem e_Tx_sortOfLatest (d : Nat) (a0 : Int) (m : zM) (h : zH) (Q : zQ) (H : q_Tx_sortOfLatest_0 d a0 m h Q) : zcal WP (d + 1) n_Tx_sortOfLatest [.inr (.inr a0)] m h Q := zcal_mk rfl H
def zm_Tu_init : Nat → Option (List Bool) := fun pc => none
abbrev q_Tu_init_0 (d : Nat) (a0 a1 a2 a3 a4 a5 : Int) (m : zM) (h : zH) (Q : zQ) : Prop := WP d n_Tu_init 0 [some (.inr (.inr a0)), some (.inl a1), some (.inl a2), some (.inl a3), some (.inl a4), some (.inl a5)] [] m h Q
set_option maxRecDepth 100000 in
set_option maxHeartbeats 8000000 in
theorem s_Tu_init_0 (d : Nat) (a0 a1 a2 a3 a4 a5 : Int) (m : zM) (h : zH) (Q : zQ) (H :
  0 < a0 ∧ kd h a0 = 11 ∧ 0 < a0 ∧ ∀ m1, m1 = zwr m a0 0 a1 →
  kd h a0 = 11 ∧ 0 < a0 ∧ ∀ m2, m2 = zwr m1 a0 1 a2 →
  kd h a0 = 11 ∧ 0 < a0 ∧ ∀ m3, m3 = zwr m2 a0 2 a3 →
  kd h a0 = 11 ∧ 0 < a0 ∧ ∀ m4, m4 = zwr m3 a0 3 a4 →
  kd h a0 = 11 ∧ 0 < a0 ∧ ∀ m5, m5 = zwr m4 a0 4 a5 →
  Q none m5 h) : q_Tu_init_0 d a0 a1 a2 a3 a4 a5 m h Q := zvc_ok zc_Tu_init zm_Tu_init 19 (fun _ => rfl) H
theorem e_Tu_init (d : Nat) (a0 a1 a2 a3 a4 a5 : Int) (m : zM) (h : zH) (Q : zQ) (H : q_Tu_init_0 d a0 a1 a2 a3 a4 a5 m h Q) : zcal WP (d + 1) n_Tu_init [.inr (.inr a0), .inl a1, .inl a2, .inl a3, .inl a4, .inl a5] m h Q := zcal_mk rfl H
def zm_Tu_hourBits : Nat → Option (List Bool) := fun pc => none
abbrev q_Tu_hourBits_0 (d : Nat) (a0 : Int) (m : zM) (h : zH) (Q : zQ) : Prop := WP d n_Tu_hourBits 0 [some (.inr (.inr a0))] [] m h Q
set_option maxRecDepth 100000 in
set_option maxHeartbeats 8000000 in
theorem s_Tu_hourBits_0 (d : Nat) (a0 : Int) (m : zM) (h : zH) (Q : zQ) (H :
  kd h a0 = 11 ∧ kd h a0 = 11 ∧ Q (some (.inl (w32 ((zshl 1 (m a0 2)) - (zshl 1 (m a0 1)))))) m h) : q_Tu_hourBits_0 d a0 m h Q := zvc_ok zc_Tu_hourBits zm_Tu_hourBits 11 (fun _ => rfl) H
theorem e_Tu_hourBits (d : Nat) (a0 : Int) (m : zM) (h : zH) (Q : zQ) (H : q_Tu_hourBits_0 d a0 m h Q) : zcal WP (d + 1) n_Tu_hourBits [.inr (.inr a0)] m h Q := zcal_mk rfl H
def zm_Jn_bitCount : Nat → Option (List Bool) := fun pc => none
abbrev q_Jn_bitCount_0 (d : Nat) (a0 : Int) (m : zM) (h : zH) (Q : zQ) : Prop := WP d n_Jn_bitCount 0 [some (.inl a0)] [] m h Q
set_option maxRecDepth 100000 in
set_option maxHeartbeats 8000000 in
theorem s_Jn_bitCount_0 (d : Nat) (a0 : Int) (m : zM) (h : zH) (Q : zQ) (H :
  Q (some (.inl (zand (w32 ((w32 ((zand (w32 ((w32 ((zand (w32 (a0 - (zand (zushr a0 1) 1431655765))) 858993459) + (zand (zushr (w32 (a0 - (zand (zushr a0 1) 1431655765))) 2) 858993459))) + (zushr (w32 ((zand (w32 (a0 - (zand (zushr a0 1) 1431655765))) 858993459) + (zand (zushr (w32 (a0 - (zand (zushr a0 1) 1431655765))) 2) 858993459))) 4))) 252645135) + (zushr (zand (w32 ((w32 ((zand (w32 (a0 - (zand (zushr a0 1) 1431655765))) 858993459) + (zand (zushr (w32 (a0 - (zand (zushr a0 1) 1431655765))) 2) 858993459))) + (zushr (w32 ((zand (w32 (a0 - (zand (zushr a0 1) 1431655765))) 858993459) + (zand (zushr (w32 (a0 - (zand (zushr a0 1) 1431655765))) 2) 858993459))) 4))) 252645135) 8))) + (zushr (w32 ((zand (w32 ((w32 ((zand (w32 (a0 - (zand (zushr a0 1) 1431655765))) 858993459) + (zand (zushr (w32 (a0 - (zand (zushr a0 1) 1431655765))) 2) 858993459))) + (zushr (w32 ((zand (w32 (a0 - (zand (zushr a0 1) 1431655765))) 858993459) + (zand (zushr (w32 (a0 - (zand (zushr a0 1) 1431655765))) 2) 858993459))) 4))) 252645135) + (zushr (zand (w32 ((w32 ((zand (w32 (a0 - (zand (zushr a0 1) 1431655765))) 858993459) + (zand (zushr (w32 (a0 - (zand (zushr a0 1) 1431655765))) 2) 858993459))) + (zushr (w32 ((zand (w32 (a0 - (zand (zushr a0 1) 1431655765))) 858993459) + (zand (zushr (w32 (a0 - (zand (zushr a0 1) 1431655765))) 2) 858993459))) 4))) 252645135) 8))) 16))) 63))) m h) : q_Jn_bitCount_0 d a0 m h Q := zvc_ok zc_Jn_bitCount zm_Jn_bitCount 43 (fun _ => rfl) H
theorem e_Jn_bitCount (d : Nat) (a0 : Int) (m : zM) (h : zH) (Q : zQ) (H : q_Jn_bitCount_0 d a0 m h Q) : zcal WP (d + 1) n_Jn_bitCount [.inl a0] m h Q := zcal_mk rfl H
def zm_Js_charAt : Nat → Option (List Bool) := fun pc => none
abbrev q_Js_charAt_0 (d : Nat) (a0 a1 : Int) (m : zM) (h : zH) (Q : zQ) : Prop := WP d n_Js_charAt 0 [some (.inr (.inr a0)), some (.inl a1)] [] m h Q
set_option maxRecDepth 100000 in
set_option maxHeartbeats 8000000 in
theorem s_Js_charAt_0 (d : Nat) (a0 a1 : Int) (m : zM) (h : zH) (Q : zQ) (H :
  kd h a0 = 14 ∧ zcal WP d n_Js_isLatin1 [.inr (.inr a0)] m h (zk1 fun r1 m1 h1 =>
  (r1 = 0 →
    -6 ≤ a0 ∧ a0 ≤ -3 ∧ False) ∧
  (¬ (r1 = 0) →
    -6 ≤ a0 ∧ a0 ≤ -3 ∧ zcal WP d n_Jl_charAt [.inr (.inr (a0 - 4)), .inl a1] m1 h1 (zk1 fun r2 m2 h2 =>
    (0 ≤ r2 ∧ r2 < 65536) ∧ Q (some (.inl r2)) m2 h2)))) : q_Js_charAt_0 d a0 a1 m h Q := zvc_ok zc_Js_charAt zm_Js_charAt 13 (fun _ => rfl) H
theorem e_Js_charAt (d : Nat) (a0 a1 : Int) (m : zM) (h : zH) (Q : zQ) (H : q_Js_charAt_0 d a0 a1 m h Q) : zcal WP (d + 1) n_Js_charAt [.inr (.inr a0), .inl a1] m h Q := zcal_mk rfl H
def zm_Js_checkIndex : Nat → Option (List Bool) := fun pc => none
abbrev q_Js_checkIndex_0 (d : Nat) (a0 a1 : Int) (m : zM) (h : zH) (Q : zQ) : Prop := WP d n_Js_checkIndex 0 [some (.inl a0), some (.inl a1)] [] m h Q
set_option maxRecDepth 100000 in
set_option maxHeartbeats 8000000 in
theorem s_Js_checkIndex_0 (d : Nat) (a0 a1 : Int) (m : zM) (h : zH) (Q : zQ) (H :
  ∀ u1 : Int, (u1 = 0 ∨ u1 = (-11)) →
  zcal WP d n_Jp_checkIndex [.inl a0, .inl a1, .inr (.inr u1)] m h (zk1 fun r2 m2 h2 =>
  Q none m2 h2)) : q_Js_checkIndex_0 d a0 a1 m h Q := zvc_ok zc_Js_checkIndex zm_Js_checkIndex 7 (fun _ => rfl) H
theorem e_Js_checkIndex (d : Nat) (a0 a1 : Int) (m : zM) (h : zH) (Q : zQ) (H : q_Js_checkIndex_0 d a0 a1 m h Q) : zcal WP (d + 1) n_Js_checkIndex [.inl a0, .inl a1] m h Q := zcal_mk rfl H
def zm_Js_coder : Nat → Option (List Bool) := fun pc => none
abbrev q_Js_coder_0 (d : Nat) (a0 : Int) (m : zM) (h : zH) (Q : zQ) : Prop := WP d n_Js_coder 0 [some (.inr (.inr a0))] [] m h Q
set_option maxRecDepth 100000 in
set_option maxHeartbeats 8000000 in
theorem s_Js_coder_0 (d : Nat) (a0 : Int) (m : zM) (h : zH) (Q : zQ) (H :
  ((1 : Int) = 0 →
    (-128 ≤ (1 : Int) ∧ (1 : Int) < 128) ∧ Q (some (.inl (1 : Int))) m h) ∧
  (¬ ((1 : Int) = 0) →
    -6 ≤ a0 ∧ a0 ≤ -3 ∧ (-128 ≤ (0 : Int) ∧ (0 : Int) < 128) ∧ Q (some (.inl (0 : Int))) m h)) : q_Js_coder_0 d a0 m h Q := zvc_ok zc_Js_coder zm_Js_coder 8 (fun _ => rfl) H
theorem e_Js_coder (d : Nat) (a0 : Int) (m : zM) (h : zH) (Q : zQ) (H : q_Js_coder_0 d a0 m h Q) : zcal WP (d + 1) n_Js_coder [.inr (.inr a0)] m h Q := zcal_mk rfl H
def zm_Js_indexOf1 : Nat → Option (List Bool) := fun pc => none
abbrev q_Js_indexOf1_0 (d : Nat) (a0 a1 : Int) (m : zM) (h : zH) (Q : zQ) : Prop := WP d n_Js_indexOf1 0 [some (.inr (.inr a0)), some (.inl a1)] [] m h Q
set_option maxRecDepth 100000 in
set_option maxHeartbeats 8000000 in
theorem s_Js_indexOf1_0 (d : Nat) (a0 a1 : Int) (m : zM) (h : zH) (Q : zQ) (H :
  kd h a0 = 14 ∧ zcal WP d n_Js_indexOf2 [.inr (.inr a0), .inl a1, .inl 0] m h (zk1 fun r1 m1 h1 =>
  Q (some (.inl r1)) m1 h1)) : q_Js_indexOf1_0 d a0 a1 m h Q := zvc_ok zc_Js_indexOf1 zm_Js_indexOf1 6 (fun _ => rfl) H
theorem e_Js_indexOf1 (d : Nat) (a0 a1 : Int) (m : zM) (h : zH) (Q : zQ) (H : q_Js_indexOf1_0 d a0 a1 m h Q) : zcal WP (d + 1) n_Js_indexOf1 [.inr (.inr a0), .inl a1] m h Q := zcal_mk rfl H
def zm_Js_indexOf2 : Nat → Option (List Bool) := fun pc => none
abbrev q_Js_indexOf2_0 (d : Nat) (a0 a1 a2 : Int) (m : zM) (h : zH) (Q : zQ) : Prop := WP d n_Js_indexOf2 0 [some (.inr (.inr a0)), some (.inl a1), some (.inl a2)] [] m h Q
set_option maxRecDepth 100000 in
set_option maxHeartbeats 8000000 in
theorem s_Js_indexOf2_0 (d : Nat) (a0 a1 a2 : Int) (m : zM) (h : zH) (Q : zQ) (H :
  kd h a0 = 14 ∧ zcal WP d n_Js_isLatin1 [.inr (.inr a0)] m h (zk1 fun r1 m1 h1 =>
  (r1 = 0 →
    -6 ≤ a0 ∧ a0 ≤ -3 ∧ kd h1 a0 = 14 ∧ zcal WP d n_Js_length [.inr (.inr a0)] m1 h1 (zk1 fun r2 m2 h2 =>
    False)) ∧
  (¬ (r1 = 0) →
    -6 ≤ a0 ∧ a0 ≤ -3 ∧ kd h1 a0 = 14 ∧ zcal WP d n_Js_length [.inr (.inr a0)] m1 h1 (zk1 fun r2 m2 h2 =>
    zcal WP d n_Jl_indexOf [.inr (.inr (a0 - 4)), .inl a1, .inl a2, .inl r2] m2 h2 (zk1 fun r3 m3 h3 =>
    Q (some (.inl r3)) m3 h3))))) : q_Js_indexOf2_0 d a0 a1 a2 m h Q := zvc_ok zc_Js_indexOf2 zm_Js_indexOf2 20 (fun _ => rfl) H
theorem e_Js_indexOf2 (d : Nat) (a0 a1 a2 : Int) (m : zM) (h : zH) (Q : zQ) (H : q_Js_indexOf2_0 d a0 a1 a2 m h Q) : zcal WP (d + 1) n_Js_indexOf2 [.inr (.inr a0), .inl a1, .inl a2] m h Q := zcal_mk rfl H
def zm_Js_isLatin1 : Nat → Option (List Bool) := fun pc => none
abbrev q_Js_isLatin1_0 (d : Nat) (a0 : Int) (m : zM) (h : zH) (Q : zQ) : Prop := WP d n_Js_isLatin1 0 [some (.inr (.inr a0))] [] m h Q
set_option maxRecDepth 100000 in
set_option maxHeartbeats 8000000 in
theorem s_Js_isLatin1_0 (d : Nat) (a0 : Int) (m : zM) (h : zH) (Q : zQ) (H :
  ((1 : Int) = 0 →
    ((0 : Int) = 0 ∨ (0 : Int) = 1) ∧ Q (some (.inl (0 : Int))) m h) ∧
  (¬ ((1 : Int) = 0) →
    -6 ≤ a0 ∧ a0 ≤ -3 ∧ ((0 : Int) ≠ 0 →
      ((0 : Int) = 0 ∨ (0 : Int) = 1) ∧ Q (some (.inl (0 : Int))) m h) ∧
    (¬ ((0 : Int) ≠ 0) →
      ((1 : Int) = 0 ∨ (1 : Int) = 1) ∧ Q (some (.inl (1 : Int))) m h))) : q_Js_isLatin1_0 d a0 m h Q := zvc_ok zc_Js_isLatin1 zm_Js_isLatin1 10 (fun _ => rfl) H
theorem e_Js_isLatin1 (d : Nat) (a0 : Int) (m : zM) (h : zH) (Q : zQ) (H : q_Js_isLatin1_0 d a0 m h Q) : zcal WP (d + 1) n_Js_isLatin1 [.inr (.inr a0)] m h Q := zcal_mk rfl H
def zm_Js_length : Nat → Option (List Bool) := fun pc => none
abbrev q_Js_length_0 (d : Nat) (a0 : Int) (m : zM) (h : zH) (Q : zQ) : Prop := WP d n_Js_length 0 [some (.inr (.inr a0))] [] m h Q
set_option maxRecDepth 100000 in
set_option maxHeartbeats 8000000 in
theorem s_Js_length_0 (d : Nat) (a0 : Int) (m : zM) (h : zH) (Q : zQ) (H :
  -6 ≤ a0 ∧ a0 ≤ -3 ∧ (100 < kd h (a0 - 4) ∧ kd h (a0 - 4) ≤ 123) ∧ kd h a0 = 14 ∧ zcal WP d n_Js_coder [.inr (.inr a0)] m h (zk1 fun r1 m1 h1 =>
  Q (some (.inl (zshr (ln h (a0 - 4)) r1))) m1 h1)) : q_Js_length_0 d a0 m h Q := zvc_ok zc_Js_length zm_Js_length 8 (fun _ => rfl) H
theorem e_Js_length (d : Nat) (a0 : Int) (m : zM) (h : zH) (Q : zQ) (H : q_Js_length_0 d a0 m h Q) : zcal WP (d + 1) n_Js_length [.inr (.inr a0)] m h Q := zcal_mk rfl H
def zm_Jl_canEncode : Nat → Option (List Bool) := fun pc => none
abbrev q_Jl_canEncode_0 (d : Nat) (a0 : Int) (m : zM) (h : zH) (Q : zQ) : Prop := WP d n_Jl_canEncode 0 [some (.inl a0)] [] m h Q
set_option maxRecDepth 100000 in
set_option maxHeartbeats 8000000 in
theorem s_Jl_canEncode_0 (d : Nat) (a0 : Int) (m : zM) (h : zH) (Q : zQ) (H :
  (a0 < 0 →
    ((0 : Int) = 0 ∨ (0 : Int) = 1) ∧ Q (some (.inl (0 : Int))) m h) ∧
  (¬ (a0 < 0) →
    ((255 : Int) < a0 →
      ((0 : Int) = 0 ∨ (0 : Int) = 1) ∧ Q (some (.inl (0 : Int))) m h) ∧
    (¬ ((255 : Int) < a0) →
      ((1 : Int) = 0 ∨ (1 : Int) = 1) ∧ Q (some (.inl (1 : Int))) m h))) : q_Jl_canEncode_0 d a0 m h Q := zvc_ok zc_Jl_canEncode zm_Jl_canEncode 10 (fun _ => rfl) H
theorem e_Jl_canEncode (d : Nat) (a0 : Int) (m : zM) (h : zH) (Q : zQ) (H : q_Jl_canEncode_0 d a0 m h Q) : zcal WP (d + 1) n_Jl_canEncode [.inl a0] m h Q := zcal_mk rfl H
def zm_Jl_charAt : Nat → Option (List Bool) := fun pc => none
abbrev q_Jl_charAt_0 (d : Nat) (a0 a1 : Int) (m : zM) (h : zH) (Q : zQ) : Prop := WP d n_Jl_charAt 0 [some (.inr (.inr a0)), some (.inl a1)] [] m h Q
set_option maxRecDepth 100000 in
set_option maxHeartbeats 8000000 in
theorem s_Jl_charAt_0 (d : Nat) (a0 a1 : Int) (m : zM) (h : zH) (Q : zQ) (H :
  (100 < kd h a0 ∧ kd h a0 ≤ 123) ∧ zcal WP d n_Js_checkIndex [.inl a1, .inl (ln h a0)] m h (zk0 fun m1 h1 =>
  kd h1 a0 = 102 ∧ (0 : Int) ≤ a1 ∧ a1 < ln h1 a0 ∧ (0 ≤ (w16 (zand (m1 a0 a1) 255)) ∧ (w16 (zand (m1 a0 a1) 255)) < 65536) ∧ Q (some (.inl (w16 (zand (m1 a0 a1) 255)))) m1 h1)) : q_Jl_charAt_0 d a0 a1 m h Q := zvc_ok zc_Jl_charAt zm_Jl_charAt 12 (fun _ => rfl) H
theorem e_Jl_charAt (d : Nat) (a0 a1 : Int) (m : zM) (h : zH) (Q : zQ) (H : q_Jl_charAt_0 d a0 a1 m h Q) : zcal WP (d + 1) n_Jl_charAt [.inr (.inr a0), .inl a1] m h Q := zcal_mk rfl H
def zm_Jl_indexOf : Nat → Option (List Bool) := fun pc => none
abbrev q_Jl_indexOf_0 (d : Nat) (a0 a1 a2 a3 : Int) (m : zM) (h : zH) (Q : zQ) : Prop := WP d n_Jl_indexOf 0 [some (.inr (.inr a0)), some (.inl a1), some (.inl a2), some (.inl a3)] [] m h Q
set_option maxRecDepth 100000 in
set_option maxHeartbeats 8000000 in
theorem s_Jl_indexOf_0 (d : Nat) (a0 a1 a2 a3 : Int) (m : zM) (h : zH) (Q : zQ) (H :
  zcal WP d n_Jl_canEncode [.inl a1] m h (zk1 fun r1 m1 h1 =>
  (r1 ≠ 0 →
    (100 < kd h1 a0 ∧ kd h1 a0 ≤ 123) ∧ ((max a2 0) < (min a3 (ln h1 a0)) →
      zcal WP d n_Jl_indexOfChar [.inr (.inr a0), .inl a1, .inl (max a2 0), .inl (min a3 (ln h1 a0))] m1 h1 (zk1 fun r2 m2 h2 =>
      Q (some (.inl r2)) m2 h2)) ∧
    (¬ ((max a2 0) < (min a3 (ln h1 a0))) →
      Q (some (.inl ((-1)))) m1 h1)) ∧
  (¬ (r1 ≠ 0) →
    Q (some (.inl ((-1)))) m1 h1))) : q_Jl_indexOf_0 d a0 a1 a2 a3 m h Q := zvc_ok zc_Jl_indexOf zm_Jl_indexOf 26 (fun _ => rfl) H
theorem e_Jl_indexOf (d : Nat) (a0 a1 a2 a3 : Int) (m : zM) (h : zH) (Q : zQ) (H : q_Jl_indexOf_0 d a0 a1 a2 a3 m h Q) : zcal WP (d + 1) n_Jl_indexOf [.inr (.inr a0), .inl a1, .inl a2, .inl a3] m h Q := zcal_mk rfl H
def zm_Jl_indexOfChar : Nat → Option (List Bool) := fun pc => bif Nat.beq pc 7 then some [true, false, false, true, true, true] else (none)
abbrev q_Jl_indexOfChar_0 (d : Nat) (a0 a1 a2 a3 : Int) (m : zM) (h : zH) (Q : zQ) : Prop := WP d n_Jl_indexOfChar 0 [some (.inr (.inr a0)), some (.inl a1), some (.inl a2), some (.inl a3), none, none] [] m h Q
abbrev q_Jl_indexOfChar_7 (d : Nat) (a0 a3 a4 a5 : Int) (m : zM) (h : zH) (Q : zQ) : Prop := WP d n_Jl_indexOfChar 7 [some (.inr (.inr a0)), none, none, some (.inl a3), some (.inl a4), some (.inl a5)] [] m h Q
set_option maxRecDepth 100000 in
set_option maxHeartbeats 8000000 in
theorem s_Jl_indexOfChar_0 (d : Nat) (a0 a1 a2 a3 : Int) (m : zM) (h : zH) (Q : zQ) (H :
  q_Jl_indexOfChar_7 d a0 a3 (w8 a1) a2 m h Q) : q_Jl_indexOfChar_0 d a0 a1 a2 a3 m h Q := zvc_ok zc_Jl_indexOfChar zm_Jl_indexOfChar 20 (fun _ => rfl) H
set_option maxRecDepth 100000 in
set_option maxHeartbeats 8000000 in
theorem s_Jl_indexOfChar_7 (d : Nat) (a0 a3 a4 a5 : Int) (m : zM) (h : zH) (Q : zQ) (H :
  (a3 ≤ a5 →
    Q (some (.inl ((-1)))) m h) ∧
  (¬ (a3 ≤ a5) →
    kd h a0 = 102 ∧ (0 : Int) ≤ a5 ∧ a5 < ln h a0 ∧ ((m a0 a5) ≠ a4 →
      q_Jl_indexOfChar_7 d a0 a3 a4 (w32 (a5 + 1)) m h Q) ∧
    (¬ ((m a0 a5) ≠ a4) →
      Q (some (.inl a5)) m h))) : q_Jl_indexOfChar_7 d a0 a3 a4 a5 m h Q := zvc_ok zc_Jl_indexOfChar zm_Jl_indexOfChar 20 (fun _ => rfl) H
theorem e_Jl_indexOfChar (d : Nat) (a0 a1 a2 a3 : Int) (m : zM) (h : zH) (Q : zQ) (H : q_Jl_indexOfChar_0 d a0 a1 a2 a3 m h Q) : zcal WP (d + 1) n_Jl_indexOfChar [.inr (.inr a0), .inl a1, .inl a2, .inl a3] m h Q := zcal_mk rfl H
def zm_Jn_fill : Nat → Option (List Bool) := fun pc => bif Nat.beq pc 5 then some [true, true, true, true] else (none)
abbrev q_Jn_fill_0 (d : Nat) (a0 a1 : Int) (m : zM) (h : zH) (Q : zQ) : Prop := WP d n_Jn_fill 0 [some (.inr (.inr a0)), some (.inl a1), none, none] [] m h Q
abbrev q_Jn_fill_5 (d : Nat) (a0 a1 a2 a3 : Int) (m : zM) (h : zH) (Q : zQ) : Prop := WP d n_Jn_fill 5 [some (.inr (.inr a0)), some (.inl a1), some (.inl a2), some (.inl a3)] [] m h Q
set_option maxRecDepth 100000 in
set_option maxHeartbeats 8000000 in
theorem s_Jn_fill_0 (d : Nat) (a0 a1 : Int) (m : zM) (h : zH) (Q : zQ) (H :
  (100 < kd h a0 ∧ kd h a0 ≤ 123) ∧ q_Jn_fill_5 d a0 a1 0 (ln h a0) m h Q) : q_Jn_fill_0 d a0 a1 m h Q := zvc_ok zc_Jn_fill zm_Jn_fill 16 (fun _ => rfl) H
set_option maxRecDepth 100000 in
set_option maxHeartbeats 8000000 in
theorem s_Jn_fill_5 (d : Nat) (a0 a1 a2 a3 : Int) (m : zM) (h : zH) (Q : zQ) (H :
  (a3 ≤ a2 →
    Q none m h) ∧
  (¬ (a3 ≤ a2) →
    kd h a0 = 101 ∧ 0 < a0 ∧ (0 : Int) ≤ a2 ∧ a2 < ln h a0 ∧ ∀ m1, m1 = zwr m a0 a2 a1 →
    q_Jn_fill_5 d a0 a1 (w32 (a2 + 1)) a3 m1 h Q)) : q_Jn_fill_5 d a0 a1 a2 a3 m h Q := zvc_ok zc_Jn_fill zm_Jn_fill 16 (fun _ => rfl) H
theorem e_Jn_fill (d : Nat) (a0 a1 : Int) (m : zM) (h : zH) (Q : zQ) (H : q_Jn_fill_0 d a0 a1 m h Q) : zcal WP (d + 1) n_Jn_fill [.inr (.inr a0), .inl a1] m h Q := zcal_mk rfl H
def zm_Jp_checkIndex : Nat → Option (List Bool) := fun pc => none
abbrev q_Jp_checkIndex_0 (d : Nat) (a0 a1 a2 : Int) (m : zM) (h : zH) (Q : zQ) : Prop := WP d n_Jp_checkIndex 0 [some (.inl a0), some (.inl a1), some (.inr (.inr a2))] [] m h Q
set_option maxRecDepth 100000 in
set_option maxHeartbeats 8000000 in
theorem s_Jp_checkIndex_0 (d : Nat) (a0 a1 a2 : Int) (m : zM) (h : zH) (Q : zQ) (H :
  (a0 < 0 →
    False) ∧
  (¬ (a0 < 0) →
    (a0 < a1 →
      Q (some (.inl a0)) m h) ∧
    (¬ (a0 < a1) →
      False))) : q_Jp_checkIndex_0 d a0 a1 a2 m h Q := zvc_ok zc_Jp_checkIndex zm_Jp_checkIndex 12 (fun _ => rfl) H
theorem e_Jp_checkIndex (d : Nat) (a0 a1 a2 : Int) (m : zM) (h : zH) (Q : zQ) (H : q_Jp_checkIndex_0 d a0 a1 a2 m h Q) : zcal WP (d + 1) n_Jp_checkIndex [.inl a0, .inl a1, .inr (.inr a2)] m h Q := zcal_mk rfl H

def zm_Lw_law : Nat → Option (List Bool) := fun pc => bif Nat.beq pc 18 then some [true, true, true, true] else (bif Nat.beq pc 488 then some [true, true, true, true] else (bif Nat.beq pc 1398 then some [true, true, true, true] else (bif Nat.beq pc 1420 then some [true, true, true, true] else (bif Nat.beq pc 1514 then some [true, true, true, true] else (none)))))
abbrev q_Lw_law_0 (d : Nat) (a0 : Int) (m : zM) (h : zH) (Q : zQ) : Prop := WP d n_Lw_law 0 [some (.inr (.inr a0)), none, none, none] [] m h Q
abbrev q_Lw_law_18 (d : Nat) (a0 a1 a2 a3 : Int) (m : zM) (h : zH) (Q : zQ) : Prop := WP d n_Lw_law 18 [some (.inr (.inr a0)), some (.inr (.inr a1)), some (.inr (.inr a2)), some (.inl a3)] [] m h Q
abbrev q_Lw_law_488 (d : Nat) (a0 a1 a2 a3 s0 s1 s2 s3 s4 s5 s6 s7 s8 : Int) (m : zM) (h : zH) (Q : zQ) : Prop := WP d n_Lw_law 488 [some (.inr (.inr a0)), some (.inr (.inr a1)), some (.inr (.inr a2)), some (.inl a3)] [.inl s0, .inl s1, .inl s2, .inl s3, .inl s4, .inl s5, .inl s6, .inl s7, .inr (.inr s8)] m h Q
abbrev q_Lw_law_1398 (d : Nat) (a0 a1 a2 a3 s0 s1 : Int) (m : zM) (h : zH) (Q : zQ) : Prop := WP d n_Lw_law 1398 [some (.inr (.inr a0)), some (.inr (.inr a1)), some (.inr (.inr a2)), some (.inl a3)] [.inl s0, .inr (.inr s1)] m h Q
abbrev q_Lw_law_1420 (d : Nat) (a0 a1 a2 a3 s0 s1 s2 : Int) (m : zM) (h : zH) (Q : zQ) : Prop := WP d n_Lw_law 1420 [some (.inr (.inr a0)), some (.inr (.inr a1)), some (.inr (.inr a2)), some (.inl a3)] [.inl s0, .inr (.inr s1), .inl s2] m h Q
abbrev q_Lw_law_1514 (d : Nat) (a0 a1 a2 a3 s0 s1 s2 s3 : Int) (m : zM) (h : zH) (Q : zQ) : Prop := WP d n_Lw_law 1514 [some (.inr (.inr a0)), some (.inr (.inr a1)), some (.inr (.inr a2)), some (.inl a3)] [.inl s0, .inl s1, .inl s2, .inr (.inr s3)] m h Q
set_option maxRecDepth 100000 in
set_option maxHeartbeats 8000000 in
theorem s_Lw_law_0 (d : Nat) (a0 : Int) (m : zM) (h : zH) (Q : zQ) (H :
  ∀ m1 h1, m1 = znm m h → h1 = znh h 12 0 7 →
  kd h1 (nx h) = 12 ∧ zcal WP d n_Es_init [.inr (.inr (nx h))] m1 h1 (zk0 fun m2 h2 =>
  ∀ m3 h3, m3 = znm m2 h2 → h3 = znh h2 13 0 120 →
  kd h3 (nx h2) = 13 ∧ zcal WP d n_Mo_init [.inr (.inr (nx h2))] m3 h3 (zk0 fun m4 h4 =>
  q_Lw_law_18 d a0 (nx h) (nx h2) 0 m4 h4 Q))) : q_Lw_law_0 d a0 m h Q := zvc_ok zc_Lw_law zm_Lw_law 1286 (fun _ => rfl) H
set_option maxRecDepth 100000 in
set_option maxHeartbeats 8000000 in
theorem s_Lw_law_18 (d : Nat) (a0 a1 a2 a3 : Int) (m : zM) (h : zH) (Q : zQ) (H :
  (100 < kd h a0 ∧ kd h a0 ≤ 123) ∧ ((w32 ((ln h a0) - 9)) < a3 →
    ((1 : Int) = 0 ∨ (1 : Int) = 1) ∧ Q (some (.inl (1 : Int))) m h) ∧
  (¬ ((w32 ((ln h a0) - 9)) < a3) →
    kd h a0 = 101 ∧ (0 : Int) ≤ a3 ∧ a3 < ln h a0 ∧ ((zand (m a0 a3) 63) = 0 →
      kd h a0 = 101 ∧ (0 : Int) ≤ (w32 (a3 + 1)) ∧ (w32 (a3 + 1)) < ln h a0 ∧ kd h a0 = 101 ∧ (0 : Int) ≤ (w32 (a3 + 2)) ∧ (w32 (a3 + 2)) < ln h a0 ∧ kd h a0 = 101 ∧ (0 : Int) ≤ (w32 (a3 + 3)) ∧ (w32 (a3 + 3)) < ln h a0 ∧ kd h a0 = 101 ∧ (0 : Int) ≤ (w32 (a3 + 4)) ∧ (w32 (a3 + 4)) < ln h a0 ∧ kd h a0 = 101 ∧ (0 : Int) ≤ (w32 (a3 + 5)) ∧ (w32 (a3 + 5)) < ln h a0 ∧ kd h a1 = 12 ∧ zcal WP d n_Es_feed [.inr (.inr a1), .inl (m a0 (w32 (a3 + 1))), .inl (m a0 (w32 (a3 + 2))), .inl (m a0 (w32 (a3 + 3))), .inl (m a0 (w32 (a3 + 4))), .inl (m a0 (w32 (a3 + 5)))] m h (zk1 fun r1 m1 h1 =>
      kd h1 a0 = 101 ∧ (0 : Int) ≤ (w32 (a3 + 1)) ∧ (w32 (a3 + 1)) < ln h1 a0 ∧ kd h1 a0 = 101 ∧ (0 : Int) ≤ (w32 (a3 + 2)) ∧ (w32 (a3 + 2)) < ln h1 a0 ∧ kd h1 a0 = 101 ∧ (0 : Int) ≤ (w32 (a3 + 3)) ∧ (w32 (a3 + 3)) < ln h1 a0 ∧ kd h1 a0 = 101 ∧ (0 : Int) ≤ (w32 (a3 + 4)) ∧ (w32 (a3 + 4)) < ln h1 a0 ∧ kd h1 a0 = 101 ∧ (0 : Int) ≤ (w32 (a3 + 5)) ∧ (w32 (a3 + 5)) < ln h1 a0 ∧ kd h1 a2 = 13 ∧ zcal WP d n_Mo_feed [.inr (.inr a2), .inl (m1 a0 (w32 (a3 + 1))), .inl (m1 a0 (w32 (a3 + 2))), .inl (m1 a0 (w32 (a3 + 3))), .inl (m1 a0 (w32 (a3 + 4))), .inl (m1 a0 (w32 (a3 + 5)))] m1 h1 (zk1 fun r2 m2 h2 =>
      (r1 = r2 →
        q_Lw_law_18 d a0 a1 a2 (w32 (a3 + 9)) m2 h2 Q) ∧
      (¬ (r1 = r2) →
        ((0 : Int) = 0 ∨ (0 : Int) = 1) ∧ Q (some (.inl (0 : Int))) m2 h2)))) ∧
    (¬ (zand (m a0 a3) 63) = 0 →
    ((zand (m a0 a3) 63) = 1 →
      kd h a0 = 101 ∧ (0 : Int) ≤ (w32 (a3 + 1)) ∧ (w32 (a3 + 1)) < ln h a0 ∧ kd h a1 = 12 ∧ zcal WP d n_Es_back [.inr (.inr a1), .inl (m a0 (w32 (a3 + 1)))] m h (zk1 fun r1 m1 h1 =>
      kd h1 a0 = 101 ∧ (0 : Int) ≤ (w32 (a3 + 1)) ∧ (w32 (a3 + 1)) < ln h1 a0 ∧ kd h1 a2 = 13 ∧ zcal WP d n_Mo_back [.inr (.inr a2), .inl (m1 a0 (w32 (a3 + 1)))] m1 h1 (zk1 fun r2 m2 h2 =>
      (r1 = r2 →
        q_Lw_law_18 d a0 a1 a2 (w32 (a3 + 9)) m2 h2 Q) ∧
      (¬ (r1 = r2) →
        ((0 : Int) = 0 ∨ (0 : Int) = 1) ∧ Q (some (.inl (0 : Int))) m2 h2)))) ∧
    (¬ (zand (m a0 a3) 63) = 1 →
    ((zand (m a0 a3) 63) = 2 →
      kd h a1 = 12 ∧ zcal WP d n_Es_read [.inr (.inr a1)] m h (zk1 fun r1 m1 h1 =>
      kd h1 a2 = 13 ∧ zcal WP d n_Mo_read [.inr (.inr a2)] m1 h1 (zk1 fun r2 m2 h2 =>
      (r1 = r2 →
        q_Lw_law_18 d a0 a1 a2 (w32 (a3 + 9)) m2 h2 Q) ∧
      (¬ (r1 = r2) →
        ((0 : Int) = 0 ∨ (0 : Int) = 1) ∧ Q (some (.inl (0 : Int))) m2 h2)))) ∧
    (¬ (zand (m a0 a3) 63) = 2 →
    ((zand (m a0 a3) 63) = 3 →
      kd h a1 = 12 ∧ zcal WP d n_Es_place [.inr (.inr a1)] m h (zk1 fun r1 m1 h1 =>
      kd h1 a2 = 13 ∧ zcal WP d n_Mo_place [.inr (.inr a2)] m1 h1 (zk1 fun r2 m2 h2 =>
      (r1 = r2 →
        q_Lw_law_18 d a0 a1 a2 (w32 (a3 + 9)) m2 h2 Q) ∧
      (¬ (r1 = r2) →
        ((0 : Int) = 0 ∨ (0 : Int) = 1) ∧ Q (some (.inl (0 : Int))) m2 h2)))) ∧
    (¬ (zand (m a0 a3) 63) = 3 →
    ((zand (m a0 a3) 63) = 4 →
      kd h a1 = 12 ∧ zcal WP d n_Es_shed [.inr (.inr a1)] m h (zk1 fun r1 m1 h1 =>
      kd h1 a2 = 13 ∧ zcal WP d n_Mo_shed [.inr (.inr a2)] m1 h1 (zk1 fun r2 m2 h2 =>
      (r1 = r2 →
        q_Lw_law_18 d a0 a1 a2 (w32 (a3 + 9)) m2 h2 Q) ∧
      (¬ (r1 = r2) →
        ((0 : Int) = 0 ∨ (0 : Int) = 1) ∧ Q (some (.inl (0 : Int))) m2 h2)))) ∧
    (¬ (zand (m a0 a3) 63) = 4 →
    ((zand (m a0 a3) 63) = 5 →
      kd h a0 = 101 ∧ (0 : Int) ≤ (w32 (a3 + 1)) ∧ (w32 (a3 + 1)) < ln h a0 ∧ kd h a0 = 101 ∧ (0 : Int) ≤ (w32 (a3 + 2)) ∧ (w32 (a3 + 2)) < ln h a0 ∧ kd h a0 = 101 ∧ (0 : Int) ≤ (w32 (a3 + 3)) ∧ (w32 (a3 + 3)) < ln h a0 ∧ kd h a1 = 12 ∧ zcal WP d n_Es_way [.inr (.inr a1), .inl (m a0 (w32 (a3 + 1))), .inl (m a0 (w32 (a3 + 2))), .inl (m a0 (w32 (a3 + 3)))] m h (zk1 fun r1 m1 h1 =>
      kd h1 a0 = 101 ∧ (0 : Int) ≤ (w32 (a3 + 1)) ∧ (w32 (a3 + 1)) < ln h1 a0 ∧ kd h1 a0 = 101 ∧ (0 : Int) ≤ (w32 (a3 + 2)) ∧ (w32 (a3 + 2)) < ln h1 a0 ∧ kd h1 a0 = 101 ∧ (0 : Int) ≤ (w32 (a3 + 3)) ∧ (w32 (a3 + 3)) < ln h1 a0 ∧ kd h1 a2 = 13 ∧ zcal WP d n_Mo_way [.inr (.inr a2), .inl (m1 a0 (w32 (a3 + 1))), .inl (m1 a0 (w32 (a3 + 2))), .inl (m1 a0 (w32 (a3 + 3)))] m1 h1 (zk1 fun r2 m2 h2 =>
      (r1 = r2 →
        q_Lw_law_18 d a0 a1 a2 (w32 (a3 + 9)) m2 h2 Q) ∧
      (¬ (r1 = r2) →
        ((0 : Int) = 0 ∨ (0 : Int) = 1) ∧ Q (some (.inl (0 : Int))) m2 h2)))) ∧
    (¬ (zand (m a0 a3) 63) = 5 →
    ((zand (m a0 a3) 63) = 6 →
      kd h a0 = 101 ∧ (0 : Int) ≤ (w32 (a3 + 1)) ∧ (w32 (a3 + 1)) < ln h a0 ∧ kd h a0 = 101 ∧ (0 : Int) ≤ (w32 (a3 + 2)) ∧ (w32 (a3 + 2)) < ln h a0 ∧ kd h a1 = 12 ∧ zcal WP d n_Es_engine [.inr (.inr a1), .inl (m a0 (w32 (a3 + 1))), .inl (m a0 (w32 (a3 + 2)))] m h (zk1 fun r1 m1 h1 =>
      kd h1 a0 = 101 ∧ (0 : Int) ≤ (w32 (a3 + 1)) ∧ (w32 (a3 + 1)) < ln h1 a0 ∧ kd h1 a0 = 101 ∧ (0 : Int) ≤ (w32 (a3 + 2)) ∧ (w32 (a3 + 2)) < ln h1 a0 ∧ kd h1 a2 = 13 ∧ zcal WP d n_Mo_engine [.inr (.inr a2), .inl (m1 a0 (w32 (a3 + 1))), .inl (m1 a0 (w32 (a3 + 2)))] m1 h1 (zk1 fun r2 m2 h2 =>
      (r1 = r2 →
        q_Lw_law_18 d a0 a1 a2 (w32 (a3 + 9)) m2 h2 Q) ∧
      (¬ (r1 = r2) →
        ((0 : Int) = 0 ∨ (0 : Int) = 1) ∧ Q (some (.inl (0 : Int))) m2 h2)))) ∧
    (¬ (zand (m a0 a3) 63) = 6 →
    ((zand (m a0 a3) 63) = 7 →
      kd h a0 = 101 ∧ (0 : Int) ≤ (w32 (a3 + 1)) ∧ (w32 (a3 + 1)) < ln h a0 ∧ kd h a1 = 12 ∧ zcal WP d n_Es_man [.inr (.inr a1), .inl (m a0 (w32 (a3 + 1)))] m h (zk1 fun r1 m1 h1 =>
      kd h1 a0 = 101 ∧ (0 : Int) ≤ (w32 (a3 + 1)) ∧ (w32 (a3 + 1)) < ln h1 a0 ∧ kd h1 a2 = 13 ∧ zcal WP d n_Mo_man [.inr (.inr a2), .inl (m1 a0 (w32 (a3 + 1)))] m1 h1 (zk1 fun r2 m2 h2 =>
      (r1 = r2 →
        q_Lw_law_18 d a0 a1 a2 (w32 (a3 + 9)) m2 h2 Q) ∧
      (¬ (r1 = r2) →
        ((0 : Int) = 0 ∨ (0 : Int) = 1) ∧ Q (some (.inl (0 : Int))) m2 h2)))) ∧
    (¬ (zand (m a0 a3) 63) = 7 →
    ((zand (m a0 a3) 63) = 8 →
      kd h a0 = 101 ∧ (0 : Int) ≤ (w32 (a3 + 1)) ∧ (w32 (a3 + 1)) < ln h a0 ∧ kd h a0 = 101 ∧ (0 : Int) ≤ (w32 (a3 + 2)) ∧ (w32 (a3 + 2)) < ln h a0 ∧ kd h a0 = 101 ∧ (0 : Int) ≤ (w32 (a3 + 3)) ∧ (w32 (a3 + 3)) < ln h a0 ∧ kd h a0 = 101 ∧ (0 : Int) ≤ (w32 (a3 + 4)) ∧ (w32 (a3 + 4)) < ln h a0 ∧ kd h a0 = 101 ∧ (0 : Int) ≤ (w32 (a3 + 5)) ∧ (w32 (a3 + 5)) < ln h a0 ∧ kd h a0 = 101 ∧ (0 : Int) ≤ (w32 (a3 + 6)) ∧ (w32 (a3 + 6)) < ln h a0 ∧ kd h a0 = 101 ∧ (0 : Int) ≤ (w32 (a3 + 7)) ∧ (w32 (a3 + 7)) < ln h a0 ∧ kd h a0 = 101 ∧ (0 : Int) ≤ (w32 (a3 + 8)) ∧ (w32 (a3 + 8)) < ln h a0 ∧ ((m a0 (w32 (a3 + 8))) = 0 →
        q_Lw_law_488 d a0 a1 a2 a3 0 (m a0 (w32 (a3 + 7))) (m a0 (w32 (a3 + 6))) (m a0 (w32 (a3 + 5))) (m a0 (w32 (a3 + 4))) (m a0 (w32 (a3 + 3))) (m a0 (w32 (a3 + 2))) (m a0 (w32 (a3 + 1))) a1 m h Q) ∧
      (¬ ((m a0 (w32 (a3 + 8))) = 0) →
        q_Lw_law_488 d a0 a1 a2 a3 1 (m a0 (w32 (a3 + 7))) (m a0 (w32 (a3 + 6))) (m a0 (w32 (a3 + 5))) (m a0 (w32 (a3 + 4))) (m a0 (w32 (a3 + 3))) (m a0 (w32 (a3 + 2))) (m a0 (w32 (a3 + 1))) a1 m h Q)) ∧
    (¬ (zand (m a0 a3) 63) = 8 →
    ((zand (m a0 a3) 63) = 9 →
      kd h a0 = 101 ∧ (0 : Int) ≤ (w32 (a3 + 1)) ∧ (w32 (a3 + 1)) < ln h a0 ∧ kd h a0 = 101 ∧ (0 : Int) ≤ (w32 (a3 + 2)) ∧ (w32 (a3 + 2)) < ln h a0 ∧ kd h a0 = 101 ∧ (0 : Int) ≤ (w32 (a3 + 3)) ∧ (w32 (a3 + 3)) < ln h a0 ∧ kd h a0 = 101 ∧ (0 : Int) ≤ (w32 (a3 + 4)) ∧ (w32 (a3 + 4)) < ln h a0 ∧ kd h a1 = 12 ∧ zcal WP d n_Es_run [.inr (.inr a1), .inl (m a0 (w32 (a3 + 1))), .inl (m a0 (w32 (a3 + 2))), .inl (m a0 (w32 (a3 + 3))), .inl (m a0 (w32 (a3 + 4)))] m h (zk1 fun r1 m1 h1 =>
      kd h1 a0 = 101 ∧ (0 : Int) ≤ (w32 (a3 + 1)) ∧ (w32 (a3 + 1)) < ln h1 a0 ∧ kd h1 a0 = 101 ∧ (0 : Int) ≤ (w32 (a3 + 2)) ∧ (w32 (a3 + 2)) < ln h1 a0 ∧ kd h1 a0 = 101 ∧ (0 : Int) ≤ (w32 (a3 + 3)) ∧ (w32 (a3 + 3)) < ln h1 a0 ∧ kd h1 a0 = 101 ∧ (0 : Int) ≤ (w32 (a3 + 4)) ∧ (w32 (a3 + 4)) < ln h1 a0 ∧ kd h1 a2 = 13 ∧ zcal WP d n_Mo_run [.inr (.inr a2), .inl (m1 a0 (w32 (a3 + 1))), .inl (m1 a0 (w32 (a3 + 2))), .inl (m1 a0 (w32 (a3 + 3))), .inl (m1 a0 (w32 (a3 + 4)))] m1 h1 (zk1 fun r2 m2 h2 =>
      (r1 = r2 →
        q_Lw_law_18 d a0 a1 a2 (w32 (a3 + 9)) m2 h2 Q) ∧
      (¬ (r1 = r2) →
        ((0 : Int) = 0 ∨ (0 : Int) = 1) ∧ Q (some (.inl (0 : Int))) m2 h2)))) ∧
    (¬ (zand (m a0 a3) 63) = 9 →
    ((zand (m a0 a3) 63) = 10 →
      kd h a0 = 101 ∧ (0 : Int) ≤ (w32 (a3 + 1)) ∧ (w32 (a3 + 1)) < ln h a0 ∧ kd h a0 = 101 ∧ (0 : Int) ≤ (w32 (a3 + 2)) ∧ (w32 (a3 + 2)) < ln h a0 ∧ kd h a1 = 12 ∧ zcal WP d n_Es_mile [.inr (.inr a1), .inl (m a0 (w32 (a3 + 1))), .inl (m a0 (w32 (a3 + 2)))] m h (zk1 fun r1 m1 h1 =>
      kd h1 a0 = 101 ∧ (0 : Int) ≤ (w32 (a3 + 1)) ∧ (w32 (a3 + 1)) < ln h1 a0 ∧ kd h1 a0 = 101 ∧ (0 : Int) ≤ (w32 (a3 + 2)) ∧ (w32 (a3 + 2)) < ln h1 a0 ∧ kd h1 a2 = 13 ∧ zcal WP d n_Mo_mile [.inr (.inr a2), .inl (m1 a0 (w32 (a3 + 1))), .inl (m1 a0 (w32 (a3 + 2)))] m1 h1 (zk1 fun r2 m2 h2 =>
      (r1 = r2 →
        q_Lw_law_18 d a0 a1 a2 (w32 (a3 + 9)) m2 h2 Q) ∧
      (¬ (r1 = r2) →
        ((0 : Int) = 0 ∨ (0 : Int) = 1) ∧ Q (some (.inl (0 : Int))) m2 h2)))) ∧
    (¬ (zand (m a0 a3) 63) = 10 →
    ((zand (m a0 a3) 63) = 11 →
      kd h a0 = 101 ∧ (0 : Int) ≤ (w32 (a3 + 1)) ∧ (w32 (a3 + 1)) < ln h a0 ∧ kd h a0 = 101 ∧ (0 : Int) ≤ (w32 (a3 + 2)) ∧ (w32 (a3 + 2)) < ln h a0 ∧ kd h a0 = 101 ∧ (0 : Int) ≤ (w32 (a3 + 3)) ∧ (w32 (a3 + 3)) < ln h a0 ∧ kd h a1 = 12 ∧ zcal WP d n_Es_fact [.inr (.inr a1), .inl (m a0 (w32 (a3 + 1))), .inl (m a0 (w32 (a3 + 2))), .inl (m a0 (w32 (a3 + 3)))] m h (zk1 fun r1 m1 h1 =>
      kd h1 a0 = 101 ∧ (0 : Int) ≤ (w32 (a3 + 1)) ∧ (w32 (a3 + 1)) < ln h1 a0 ∧ kd h1 a0 = 101 ∧ (0 : Int) ≤ (w32 (a3 + 2)) ∧ (w32 (a3 + 2)) < ln h1 a0 ∧ kd h1 a0 = 101 ∧ (0 : Int) ≤ (w32 (a3 + 3)) ∧ (w32 (a3 + 3)) < ln h1 a0 ∧ kd h1 a2 = 13 ∧ zcal WP d n_Mo_fact [.inr (.inr a2), .inl (m1 a0 (w32 (a3 + 1))), .inl (m1 a0 (w32 (a3 + 2))), .inl (m1 a0 (w32 (a3 + 3)))] m1 h1 (zk1 fun r2 m2 h2 =>
      (r1 = r2 →
        q_Lw_law_18 d a0 a1 a2 (w32 (a3 + 9)) m2 h2 Q) ∧
      (¬ (r1 = r2) →
        ((0 : Int) = 0 ∨ (0 : Int) = 1) ∧ Q (some (.inl (0 : Int))) m2 h2)))) ∧
    (¬ (zand (m a0 a3) 63) = 11 →
    ((zand (m a0 a3) 63) = 12 →
      kd h a0 = 101 ∧ (0 : Int) ≤ (w32 (a3 + 1)) ∧ (w32 (a3 + 1)) < ln h a0 ∧ kd h a0 = 101 ∧ (0 : Int) ≤ (w32 (a3 + 2)) ∧ (w32 (a3 + 2)) < ln h a0 ∧ kd h a0 = 101 ∧ (0 : Int) ≤ (w32 (a3 + 3)) ∧ (w32 (a3 + 3)) < ln h a0 ∧ kd h a1 = 12 ∧ zcal WP d n_Es_shops [.inr (.inr a1), .inl (m a0 (w32 (a3 + 1))), .inl (m a0 (w32 (a3 + 2))), .inl (m a0 (w32 (a3 + 3)))] m h (zk1 fun r1 m1 h1 =>
      kd h1 a0 = 101 ∧ (0 : Int) ≤ (w32 (a3 + 1)) ∧ (w32 (a3 + 1)) < ln h1 a0 ∧ kd h1 a0 = 101 ∧ (0 : Int) ≤ (w32 (a3 + 2)) ∧ (w32 (a3 + 2)) < ln h1 a0 ∧ kd h1 a0 = 101 ∧ (0 : Int) ≤ (w32 (a3 + 3)) ∧ (w32 (a3 + 3)) < ln h1 a0 ∧ kd h1 a2 = 13 ∧ zcal WP d n_Mo_shops [.inr (.inr a2), .inl (m1 a0 (w32 (a3 + 1))), .inl (m1 a0 (w32 (a3 + 2))), .inl (m1 a0 (w32 (a3 + 3)))] m1 h1 (zk1 fun r2 m2 h2 =>
      (r1 = r2 →
        q_Lw_law_18 d a0 a1 a2 (w32 (a3 + 9)) m2 h2 Q) ∧
      (¬ (r1 = r2) →
        ((0 : Int) = 0 ∨ (0 : Int) = 1) ∧ Q (some (.inl (0 : Int))) m2 h2)))) ∧
    (¬ (zand (m a0 a3) 63) = 12 →
    ((zand (m a0 a3) 63) = 13 →
      kd h a0 = 101 ∧ (0 : Int) ≤ (w32 (a3 + 1)) ∧ (w32 (a3 + 1)) < ln h a0 ∧ kd h a0 = 101 ∧ (0 : Int) ≤ (w32 (a3 + 2)) ∧ (w32 (a3 + 2)) < ln h a0 ∧ kd h a0 = 101 ∧ (0 : Int) ≤ (w32 (a3 + 3)) ∧ (w32 (a3 + 3)) < ln h a0 ∧ kd h a1 = 12 ∧ zcal WP d n_Es_fails [.inr (.inr a1), .inl (m a0 (w32 (a3 + 1))), .inl (m a0 (w32 (a3 + 2))), .inl (m a0 (w32 (a3 + 3)))] m h (zk1 fun r1 m1 h1 =>
      kd h1 a0 = 101 ∧ (0 : Int) ≤ (w32 (a3 + 1)) ∧ (w32 (a3 + 1)) < ln h1 a0 ∧ kd h1 a0 = 101 ∧ (0 : Int) ≤ (w32 (a3 + 2)) ∧ (w32 (a3 + 2)) < ln h1 a0 ∧ kd h1 a0 = 101 ∧ (0 : Int) ≤ (w32 (a3 + 3)) ∧ (w32 (a3 + 3)) < ln h1 a0 ∧ kd h1 a2 = 13 ∧ zcal WP d n_Mo_fails [.inr (.inr a2), .inl (m1 a0 (w32 (a3 + 1))), .inl (m1 a0 (w32 (a3 + 2))), .inl (m1 a0 (w32 (a3 + 3)))] m1 h1 (zk1 fun r2 m2 h2 =>
      (r1 = r2 →
        q_Lw_law_18 d a0 a1 a2 (w32 (a3 + 9)) m2 h2 Q) ∧
      (¬ (r1 = r2) →
        ((0 : Int) = 0 ∨ (0 : Int) = 1) ∧ Q (some (.inl (0 : Int))) m2 h2)))) ∧
    (¬ (zand (m a0 a3) 63) = 13 →
    ((zand (m a0 a3) 63) = 14 →
      kd h a0 = 101 ∧ (0 : Int) ≤ (w32 (a3 + 1)) ∧ (w32 (a3 + 1)) < ln h a0 ∧ kd h a0 = 101 ∧ (0 : Int) ≤ (w32 (a3 + 2)) ∧ (w32 (a3 + 2)) < ln h a0 ∧ kd h a0 = 101 ∧ (0 : Int) ≤ (w32 (a3 + 3)) ∧ (w32 (a3 + 3)) < ln h a0 ∧ kd h a1 = 12 ∧ zcal WP d n_Es_lent [.inr (.inr a1), .inl (m a0 (w32 (a3 + 1))), .inl (m a0 (w32 (a3 + 2))), .inl (m a0 (w32 (a3 + 3)))] m h (zk1 fun r1 m1 h1 =>
      kd h1 a0 = 101 ∧ (0 : Int) ≤ (w32 (a3 + 1)) ∧ (w32 (a3 + 1)) < ln h1 a0 ∧ kd h1 a0 = 101 ∧ (0 : Int) ≤ (w32 (a3 + 2)) ∧ (w32 (a3 + 2)) < ln h1 a0 ∧ kd h1 a0 = 101 ∧ (0 : Int) ≤ (w32 (a3 + 3)) ∧ (w32 (a3 + 3)) < ln h1 a0 ∧ kd h1 a2 = 13 ∧ zcal WP d n_Mo_lent [.inr (.inr a2), .inl (m1 a0 (w32 (a3 + 1))), .inl (m1 a0 (w32 (a3 + 2))), .inl (m1 a0 (w32 (a3 + 3)))] m1 h1 (zk1 fun r2 m2 h2 =>
      (r1 = r2 →
        q_Lw_law_18 d a0 a1 a2 (w32 (a3 + 9)) m2 h2 Q) ∧
      (¬ (r1 = r2) →
        ((0 : Int) = 0 ∨ (0 : Int) = 1) ∧ Q (some (.inl (0 : Int))) m2 h2)))) ∧
    (¬ (zand (m a0 a3) 63) = 14 →
    ((zand (m a0 a3) 63) = 15 →
      kd h a0 = 101 ∧ (0 : Int) ≤ (w32 (a3 + 1)) ∧ (w32 (a3 + 1)) < ln h a0 ∧ kd h a0 = 101 ∧ (0 : Int) ≤ (w32 (a3 + 2)) ∧ (w32 (a3 + 2)) < ln h a0 ∧ kd h a0 = 101 ∧ (0 : Int) ≤ (w32 (a3 + 3)) ∧ (w32 (a3 + 3)) < ln h a0 ∧ kd h a1 = 12 ∧ zcal WP d n_Es_coals [.inr (.inr a1), .inl (m a0 (w32 (a3 + 1))), .inl (m a0 (w32 (a3 + 2))), .inl (m a0 (w32 (a3 + 3)))] m h (zk1 fun r1 m1 h1 =>
      kd h1 a0 = 101 ∧ (0 : Int) ≤ (w32 (a3 + 1)) ∧ (w32 (a3 + 1)) < ln h1 a0 ∧ kd h1 a0 = 101 ∧ (0 : Int) ≤ (w32 (a3 + 2)) ∧ (w32 (a3 + 2)) < ln h1 a0 ∧ kd h1 a0 = 101 ∧ (0 : Int) ≤ (w32 (a3 + 3)) ∧ (w32 (a3 + 3)) < ln h1 a0 ∧ kd h1 a2 = 13 ∧ zcal WP d n_Mo_coals [.inr (.inr a2), .inl (m1 a0 (w32 (a3 + 1))), .inl (m1 a0 (w32 (a3 + 2))), .inl (m1 a0 (w32 (a3 + 3)))] m1 h1 (zk1 fun r2 m2 h2 =>
      (r1 = r2 →
        q_Lw_law_18 d a0 a1 a2 (w32 (a3 + 9)) m2 h2 Q) ∧
      (¬ (r1 = r2) →
        ((0 : Int) = 0 ∨ (0 : Int) = 1) ∧ Q (some (.inl (0 : Int))) m2 h2)))) ∧
    (¬ (zand (m a0 a3) 63) = 15 →
    ((zand (m a0 a3) 63) = 16 →
      kd h a0 = 101 ∧ (0 : Int) ≤ (w32 (a3 + 1)) ∧ (w32 (a3 + 1)) < ln h a0 ∧ kd h a1 = 12 ∧ zcal WP d n_Es_rules [.inr (.inr a1), .inl (m a0 (w32 (a3 + 1)))] m h (zk1 fun r1 m1 h1 =>
      kd h1 a0 = 101 ∧ (0 : Int) ≤ (w32 (a3 + 1)) ∧ (w32 (a3 + 1)) < ln h1 a0 ∧ kd h1 a2 = 13 ∧ zcal WP d n_Mo_rules [.inr (.inr a2), .inl (m1 a0 (w32 (a3 + 1)))] m1 h1 (zk1 fun r2 m2 h2 =>
      (r1 = r2 →
        q_Lw_law_18 d a0 a1 a2 (w32 (a3 + 9)) m2 h2 Q) ∧
      (¬ (r1 = r2) →
        ((0 : Int) = 0 ∨ (0 : Int) = 1) ∧ Q (some (.inl (0 : Int))) m2 h2)))) ∧
    (¬ (zand (m a0 a3) 63) = 16 →
    ((zand (m a0 a3) 63) = 17 →
      kd h a0 = 101 ∧ (0 : Int) ≤ (w32 (a3 + 1)) ∧ (w32 (a3 + 1)) < ln h a0 ∧ kd h a0 = 101 ∧ (0 : Int) ≤ (w32 (a3 + 2)) ∧ (w32 (a3 + 2)) < ln h a0 ∧ kd h a0 = 101 ∧ (0 : Int) ≤ (w32 (a3 + 3)) ∧ (w32 (a3 + 3)) < ln h a0 ∧ kd h a1 = 12 ∧ zcal WP d n_Es_rule [.inr (.inr a1), .inl (m a0 (w32 (a3 + 1))), .inl (m a0 (w32 (a3 + 2))), .inl (m a0 (w32 (a3 + 3)))] m h (zk1 fun r1 m1 h1 =>
      kd h1 a0 = 101 ∧ (0 : Int) ≤ (w32 (a3 + 1)) ∧ (w32 (a3 + 1)) < ln h1 a0 ∧ kd h1 a0 = 101 ∧ (0 : Int) ≤ (w32 (a3 + 2)) ∧ (w32 (a3 + 2)) < ln h1 a0 ∧ kd h1 a0 = 101 ∧ (0 : Int) ≤ (w32 (a3 + 3)) ∧ (w32 (a3 + 3)) < ln h1 a0 ∧ kd h1 a2 = 13 ∧ zcal WP d n_Mo_rule [.inr (.inr a2), .inl (m1 a0 (w32 (a3 + 1))), .inl (m1 a0 (w32 (a3 + 2))), .inl (m1 a0 (w32 (a3 + 3)))] m1 h1 (zk1 fun r2 m2 h2 =>
      (r1 = r2 →
        q_Lw_law_18 d a0 a1 a2 (w32 (a3 + 9)) m2 h2 Q) ∧
      (¬ (r1 = r2) →
        ((0 : Int) = 0 ∨ (0 : Int) = 1) ∧ Q (some (.inl (0 : Int))) m2 h2)))) ∧
    (¬ (zand (m a0 a3) 63) = 17 →
    ((zand (m a0 a3) 63) = 18 →
      kd h a0 = 101 ∧ (0 : Int) ≤ (w32 (a3 + 1)) ∧ (w32 (a3 + 1)) < ln h a0 ∧ kd h a0 = 101 ∧ (0 : Int) ≤ (w32 (a3 + 2)) ∧ (w32 (a3 + 2)) < ln h a0 ∧ kd h a0 = 101 ∧ (0 : Int) ≤ (w32 (a3 + 3)) ∧ (w32 (a3 + 3)) < ln h a0 ∧ kd h a0 = 101 ∧ (0 : Int) ≤ (w32 (a3 + 4)) ∧ (w32 (a3 + 4)) < ln h a0 ∧ kd h a1 = 12 ∧ zcal WP d n_Es_state [.inr (.inr a1), .inl (m a0 (w32 (a3 + 1))), .inl (m a0 (w32 (a3 + 2))), .inl (m a0 (w32 (a3 + 3))), .inl (m a0 (w32 (a3 + 4)))] m h (zk1 fun r1 m1 h1 =>
      kd h1 a0 = 101 ∧ (0 : Int) ≤ (w32 (a3 + 1)) ∧ (w32 (a3 + 1)) < ln h1 a0 ∧ kd h1 a0 = 101 ∧ (0 : Int) ≤ (w32 (a3 + 2)) ∧ (w32 (a3 + 2)) < ln h1 a0 ∧ kd h1 a0 = 101 ∧ (0 : Int) ≤ (w32 (a3 + 3)) ∧ (w32 (a3 + 3)) < ln h1 a0 ∧ kd h1 a0 = 101 ∧ (0 : Int) ≤ (w32 (a3 + 4)) ∧ (w32 (a3 + 4)) < ln h1 a0 ∧ kd h1 a2 = 13 ∧ zcal WP d n_Mo_state [.inr (.inr a2), .inl (m1 a0 (w32 (a3 + 1))), .inl (m1 a0 (w32 (a3 + 2))), .inl (m1 a0 (w32 (a3 + 3))), .inl (m1 a0 (w32 (a3 + 4)))] m1 h1 (zk1 fun r2 m2 h2 =>
      (r1 = r2 →
        q_Lw_law_18 d a0 a1 a2 (w32 (a3 + 9)) m2 h2 Q) ∧
      (¬ (r1 = r2) →
        ((0 : Int) = 0 ∨ (0 : Int) = 1) ∧ Q (some (.inl (0 : Int))) m2 h2)))) ∧
    (¬ (zand (m a0 a3) 63) = 18 →
    ((zand (m a0 a3) 63) = 19 →
      kd h a0 = 101 ∧ (0 : Int) ≤ (w32 (a3 + 1)) ∧ (w32 (a3 + 1)) < ln h a0 ∧ kd h a0 = 101 ∧ (0 : Int) ≤ (w32 (a3 + 2)) ∧ (w32 (a3 + 2)) < ln h a0 ∧ kd h a1 = 12 ∧ zcal WP d n_Es_isVoid [.inr (.inr a1), .inl (m a0 (w32 (a3 + 1))), .inl (m a0 (w32 (a3 + 2)))] m h (zk1 fun r1 m1 h1 =>
      kd h1 a0 = 101 ∧ (0 : Int) ≤ (w32 (a3 + 1)) ∧ (w32 (a3 + 1)) < ln h1 a0 ∧ kd h1 a0 = 101 ∧ (0 : Int) ≤ (w32 (a3 + 2)) ∧ (w32 (a3 + 2)) < ln h1 a0 ∧ kd h1 a2 = 13 ∧ zcal WP d n_Mo_isVoid [.inr (.inr a2), .inl (m1 a0 (w32 (a3 + 1))), .inl (m1 a0 (w32 (a3 + 2)))] m1 h1 (zk1 fun r2 m2 h2 =>
      (r1 = r2 →
        q_Lw_law_18 d a0 a1 a2 (w32 (a3 + 9)) m2 h2 Q) ∧
      (¬ (r1 = r2) →
        ((0 : Int) = 0 ∨ (0 : Int) = 1) ∧ Q (some (.inl (0 : Int))) m2 h2)))) ∧
    (¬ (zand (m a0 a3) 63) = 19 →
    ((zand (m a0 a3) 63) = 20 →
      kd h a0 = 101 ∧ (0 : Int) ≤ (w32 (a3 + 1)) ∧ (w32 (a3 + 1)) < ln h a0 ∧ kd h a0 = 101 ∧ (0 : Int) ≤ (w32 (a3 + 2)) ∧ (w32 (a3 + 2)) < ln h a0 ∧ kd h a0 = 101 ∧ (0 : Int) ≤ (w32 (a3 + 3)) ∧ (w32 (a3 + 3)) < ln h a0 ∧ kd h a1 = 12 ∧ zcal WP d n_Es_held [.inr (.inr a1), .inl (m a0 (w32 (a3 + 1))), .inl (m a0 (w32 (a3 + 2))), .inl (m a0 (w32 (a3 + 3)))] m h (zk1 fun r1 m1 h1 =>
      kd h1 a0 = 101 ∧ (0 : Int) ≤ (w32 (a3 + 1)) ∧ (w32 (a3 + 1)) < ln h1 a0 ∧ kd h1 a0 = 101 ∧ (0 : Int) ≤ (w32 (a3 + 2)) ∧ (w32 (a3 + 2)) < ln h1 a0 ∧ kd h1 a0 = 101 ∧ (0 : Int) ≤ (w32 (a3 + 3)) ∧ (w32 (a3 + 3)) < ln h1 a0 ∧ kd h1 a2 = 13 ∧ zcal WP d n_Mo_held [.inr (.inr a2), .inl (m1 a0 (w32 (a3 + 1))), .inl (m1 a0 (w32 (a3 + 2))), .inl (m1 a0 (w32 (a3 + 3)))] m1 h1 (zk1 fun r2 m2 h2 =>
      (r1 = r2 →
        q_Lw_law_18 d a0 a1 a2 (w32 (a3 + 9)) m2 h2 Q) ∧
      (¬ (r1 = r2) →
        ((0 : Int) = 0 ∨ (0 : Int) = 1) ∧ Q (some (.inl (0 : Int))) m2 h2)))) ∧
    (¬ (zand (m a0 a3) 63) = 20 →
    ((zand (m a0 a3) 63) = 21 →
      kd h a0 = 101 ∧ (0 : Int) ≤ (w32 (a3 + 1)) ∧ (w32 (a3 + 1)) < ln h a0 ∧ kd h a0 = 101 ∧ (0 : Int) ≤ (w32 (a3 + 2)) ∧ (w32 (a3 + 2)) < ln h a0 ∧ kd h a1 = 12 ∧ zcal WP d n_Es_bar [.inr (.inr a1), .inl (m a0 (w32 (a3 + 1))), .inl (m a0 (w32 (a3 + 2)))] m h (zk1 fun r1 m1 h1 =>
      kd h1 a0 = 101 ∧ (0 : Int) ≤ (w32 (a3 + 1)) ∧ (w32 (a3 + 1)) < ln h1 a0 ∧ kd h1 a0 = 101 ∧ (0 : Int) ≤ (w32 (a3 + 2)) ∧ (w32 (a3 + 2)) < ln h1 a0 ∧ kd h1 a2 = 13 ∧ zcal WP d n_Mo_bar [.inr (.inr a2), .inl (m1 a0 (w32 (a3 + 1))), .inl (m1 a0 (w32 (a3 + 2)))] m1 h1 (zk1 fun r2 m2 h2 =>
      (r1 = r2 →
        q_Lw_law_18 d a0 a1 a2 (w32 (a3 + 9)) m2 h2 Q) ∧
      (¬ (r1 = r2) →
        ((0 : Int) = 0 ∨ (0 : Int) = 1) ∧ Q (some (.inl (0 : Int))) m2 h2)))) ∧
    (¬ (zand (m a0 a3) 63) = 21 →
    ((zand (m a0 a3) 63) = 22 →
      kd h a0 = 101 ∧ (0 : Int) ≤ (w32 (a3 + 1)) ∧ (w32 (a3 + 1)) < ln h a0 ∧ kd h a0 = 101 ∧ (0 : Int) ≤ (w32 (a3 + 2)) ∧ (w32 (a3 + 2)) < ln h a0 ∧ kd h a0 = 101 ∧ (0 : Int) ≤ (w32 (a3 + 3)) ∧ (w32 (a3 + 3)) < ln h a0 ∧ kd h a1 = 12 ∧ zcal WP d n_Es_due [.inr (.inr a1), .inl (m a0 (w32 (a3 + 1))), .inl (m a0 (w32 (a3 + 2))), .inl (m a0 (w32 (a3 + 3)))] m h (zk1 fun r1 m1 h1 =>
      kd h1 a0 = 101 ∧ (0 : Int) ≤ (w32 (a3 + 1)) ∧ (w32 (a3 + 1)) < ln h1 a0 ∧ kd h1 a0 = 101 ∧ (0 : Int) ≤ (w32 (a3 + 2)) ∧ (w32 (a3 + 2)) < ln h1 a0 ∧ kd h1 a0 = 101 ∧ (0 : Int) ≤ (w32 (a3 + 3)) ∧ (w32 (a3 + 3)) < ln h1 a0 ∧ kd h1 a2 = 13 ∧ zcal WP d n_Mo_due [.inr (.inr a2), .inl (m1 a0 (w32 (a3 + 1))), .inl (m1 a0 (w32 (a3 + 2))), .inl (m1 a0 (w32 (a3 + 3)))] m1 h1 (zk1 fun r2 m2 h2 =>
      (r1 = r2 →
        q_Lw_law_18 d a0 a1 a2 (w32 (a3 + 9)) m2 h2 Q) ∧
      (¬ (r1 = r2) →
        ((0 : Int) = 0 ∨ (0 : Int) = 1) ∧ Q (some (.inl (0 : Int))) m2 h2)))) ∧
    (¬ (zand (m a0 a3) 63) = 22 →
    ((zand (m a0 a3) 63) = 23 →
      kd h a0 = 101 ∧ (0 : Int) ≤ (w32 (a3 + 1)) ∧ (w32 (a3 + 1)) < ln h a0 ∧ kd h a0 = 101 ∧ (0 : Int) ≤ (w32 (a3 + 2)) ∧ (w32 (a3 + 2)) < ln h a0 ∧ kd h a0 = 101 ∧ (0 : Int) ≤ (w32 (a3 + 3)) ∧ (w32 (a3 + 3)) < ln h a0 ∧ kd h a1 = 12 ∧ zcal WP d n_Es_beyond [.inr (.inr a1), .inl (m a0 (w32 (a3 + 1))), .inl (m a0 (w32 (a3 + 2))), .inl (m a0 (w32 (a3 + 3)))] m h (zk1 fun r1 m1 h1 =>
      kd h1 a0 = 101 ∧ (0 : Int) ≤ (w32 (a3 + 1)) ∧ (w32 (a3 + 1)) < ln h1 a0 ∧ kd h1 a0 = 101 ∧ (0 : Int) ≤ (w32 (a3 + 2)) ∧ (w32 (a3 + 2)) < ln h1 a0 ∧ kd h1 a0 = 101 ∧ (0 : Int) ≤ (w32 (a3 + 3)) ∧ (w32 (a3 + 3)) < ln h1 a0 ∧ kd h1 a2 = 13 ∧ zcal WP d n_Mo_beyond [.inr (.inr a2), .inl (m1 a0 (w32 (a3 + 1))), .inl (m1 a0 (w32 (a3 + 2))), .inl (m1 a0 (w32 (a3 + 3)))] m1 h1 (zk1 fun r2 m2 h2 =>
      (r1 = r2 →
        q_Lw_law_18 d a0 a1 a2 (w32 (a3 + 9)) m2 h2 Q) ∧
      (¬ (r1 = r2) →
        ((0 : Int) = 0 ∨ (0 : Int) = 1) ∧ Q (some (.inl (0 : Int))) m2 h2)))) ∧
    (¬ (zand (m a0 a3) 63) = 23 →
    ((zand (m a0 a3) 63) = 24 →
      kd h a0 = 101 ∧ (0 : Int) ≤ (w32 (a3 + 1)) ∧ (w32 (a3 + 1)) < ln h a0 ∧ kd h a0 = 101 ∧ (0 : Int) ≤ (w32 (a3 + 2)) ∧ (w32 (a3 + 2)) < ln h a0 ∧ kd h a1 = 12 ∧ zcal WP d n_Es_help [.inr (.inr a1), .inl (m a0 (w32 (a3 + 1))), .inl (m a0 (w32 (a3 + 2)))] m h (zk1 fun r1 m1 h1 =>
      kd h1 a0 = 101 ∧ (0 : Int) ≤ (w32 (a3 + 1)) ∧ (w32 (a3 + 1)) < ln h1 a0 ∧ kd h1 a0 = 101 ∧ (0 : Int) ≤ (w32 (a3 + 2)) ∧ (w32 (a3 + 2)) < ln h1 a0 ∧ kd h1 a2 = 13 ∧ zcal WP d n_Mo_help [.inr (.inr a2), .inl (m1 a0 (w32 (a3 + 1))), .inl (m1 a0 (w32 (a3 + 2)))] m1 h1 (zk1 fun r2 m2 h2 =>
      (r1 = r2 →
        q_Lw_law_18 d a0 a1 a2 (w32 (a3 + 9)) m2 h2 Q) ∧
      (¬ (r1 = r2) →
        ((0 : Int) = 0 ∨ (0 : Int) = 1) ∧ Q (some (.inl (0 : Int))) m2 h2)))) ∧
    (¬ (zand (m a0 a3) 63) = 24 →
    ((zand (m a0 a3) 63) = 25 →
      kd h a0 = 101 ∧ (0 : Int) ≤ (w32 (a3 + 1)) ∧ (w32 (a3 + 1)) < ln h a0 ∧ kd h a0 = 101 ∧ (0 : Int) ≤ (w32 (a3 + 2)) ∧ (w32 (a3 + 2)) < ln h a0 ∧ kd h a0 = 101 ∧ (0 : Int) ≤ (w32 (a3 + 3)) ∧ (w32 (a3 + 3)) < ln h a0 ∧ kd h a1 = 12 ∧ zcal WP d n_Es_coal [.inr (.inr a1), .inl (m a0 (w32 (a3 + 1))), .inl (m a0 (w32 (a3 + 2))), .inl (m a0 (w32 (a3 + 3)))] m h (zk1 fun r1 m1 h1 =>
      kd h1 a0 = 101 ∧ (0 : Int) ≤ (w32 (a3 + 1)) ∧ (w32 (a3 + 1)) < ln h1 a0 ∧ kd h1 a0 = 101 ∧ (0 : Int) ≤ (w32 (a3 + 2)) ∧ (w32 (a3 + 2)) < ln h1 a0 ∧ kd h1 a0 = 101 ∧ (0 : Int) ≤ (w32 (a3 + 3)) ∧ (w32 (a3 + 3)) < ln h1 a0 ∧ kd h1 a2 = 13 ∧ zcal WP d n_Mo_coal [.inr (.inr a2), .inl (m1 a0 (w32 (a3 + 1))), .inl (m1 a0 (w32 (a3 + 2))), .inl (m1 a0 (w32 (a3 + 3)))] m1 h1 (zk1 fun r2 m2 h2 =>
      (r1 = r2 →
        q_Lw_law_18 d a0 a1 a2 (w32 (a3 + 9)) m2 h2 Q) ∧
      (¬ (r1 = r2) →
        ((0 : Int) = 0 ∨ (0 : Int) = 1) ∧ Q (some (.inl (0 : Int))) m2 h2)))) ∧
    (¬ (zand (m a0 a3) 63) = 25 →
    ((zand (m a0 a3) 63) = 26 →
      kd h a0 = 101 ∧ (0 : Int) ≤ (w32 (a3 + 1)) ∧ (w32 (a3 + 1)) < ln h a0 ∧ kd h a0 = 101 ∧ (0 : Int) ≤ (w32 (a3 + 2)) ∧ (w32 (a3 + 2)) < ln h a0 ∧ kd h a0 = 101 ∧ (0 : Int) ≤ (w32 (a3 + 3)) ∧ (w32 (a3 + 3)) < ln h a0 ∧ kd h a0 = 101 ∧ (0 : Int) ≤ (w32 (a3 + 4)) ∧ (w32 (a3 + 4)) < ln h a0 ∧ kd h a0 = 101 ∧ (0 : Int) ≤ (w32 (a3 + 5)) ∧ (w32 (a3 + 5)) < ln h a0 ∧ kd h a1 = 12 ∧ zcal WP d n_Es_owes [.inr (.inr a1), .inl (m a0 (w32 (a3 + 1))), .inl (m a0 (w32 (a3 + 2))), .inl (m a0 (w32 (a3 + 3))), .inl (m a0 (w32 (a3 + 4))), .inl (m a0 (w32 (a3 + 5)))] m h (zk1 fun r1 m1 h1 =>
      kd h1 a0 = 101 ∧ (0 : Int) ≤ (w32 (a3 + 1)) ∧ (w32 (a3 + 1)) < ln h1 a0 ∧ kd h1 a0 = 101 ∧ (0 : Int) ≤ (w32 (a3 + 2)) ∧ (w32 (a3 + 2)) < ln h1 a0 ∧ kd h1 a0 = 101 ∧ (0 : Int) ≤ (w32 (a3 + 3)) ∧ (w32 (a3 + 3)) < ln h1 a0 ∧ kd h1 a0 = 101 ∧ (0 : Int) ≤ (w32 (a3 + 4)) ∧ (w32 (a3 + 4)) < ln h1 a0 ∧ kd h1 a0 = 101 ∧ (0 : Int) ≤ (w32 (a3 + 5)) ∧ (w32 (a3 + 5)) < ln h1 a0 ∧ kd h1 a2 = 13 ∧ zcal WP d n_Mo_owes [.inr (.inr a2), .inl (m1 a0 (w32 (a3 + 1))), .inl (m1 a0 (w32 (a3 + 2))), .inl (m1 a0 (w32 (a3 + 3))), .inl (m1 a0 (w32 (a3 + 4))), .inl (m1 a0 (w32 (a3 + 5)))] m1 h1 (zk1 fun r2 m2 h2 =>
      (r1 = r2 →
        q_Lw_law_18 d a0 a1 a2 (w32 (a3 + 9)) m2 h2 Q) ∧
      (¬ (r1 = r2) →
        ((0 : Int) = 0 ∨ (0 : Int) = 1) ∧ Q (some (.inl (0 : Int))) m2 h2)))) ∧
    (¬ (zand (m a0 a3) 63) = 26 →
    ((zand (m a0 a3) 63) = 27 →
      kd h a0 = 101 ∧ (0 : Int) ≤ (w32 (a3 + 1)) ∧ (w32 (a3 + 1)) < ln h a0 ∧ kd h a0 = 101 ∧ (0 : Int) ≤ (w32 (a3 + 2)) ∧ (w32 (a3 + 2)) < ln h a0 ∧ kd h a0 = 101 ∧ (0 : Int) ≤ (w32 (a3 + 3)) ∧ (w32 (a3 + 3)) < ln h a0 ∧ kd h a1 = 12 ∧ zcal WP d n_Es_best [.inr (.inr a1), .inl (m a0 (w32 (a3 + 1))), .inl (m a0 (w32 (a3 + 2))), .inl (m a0 (w32 (a3 + 3)))] m h (zk1 fun r1 m1 h1 =>
      kd h1 a0 = 101 ∧ (0 : Int) ≤ (w32 (a3 + 1)) ∧ (w32 (a3 + 1)) < ln h1 a0 ∧ kd h1 a0 = 101 ∧ (0 : Int) ≤ (w32 (a3 + 2)) ∧ (w32 (a3 + 2)) < ln h1 a0 ∧ kd h1 a0 = 101 ∧ (0 : Int) ≤ (w32 (a3 + 3)) ∧ (w32 (a3 + 3)) < ln h1 a0 ∧ kd h1 a2 = 13 ∧ zcal WP d n_Mo_best [.inr (.inr a2), .inl (m1 a0 (w32 (a3 + 1))), .inl (m1 a0 (w32 (a3 + 2))), .inl (m1 a0 (w32 (a3 + 3)))] m1 h1 (zk1 fun r2 m2 h2 =>
      (r1 = r2 →
        q_Lw_law_18 d a0 a1 a2 (w32 (a3 + 9)) m2 h2 Q) ∧
      (¬ (r1 = r2) →
        ((0 : Int) = 0 ∨ (0 : Int) = 1) ∧ Q (some (.inl (0 : Int))) m2 h2)))) ∧
    (¬ (zand (m a0 a3) 63) = 27 →
    ((zand (m a0 a3) 63) = 28 →
      kd h a0 = 101 ∧ (0 : Int) ≤ (w32 (a3 + 1)) ∧ (w32 (a3 + 1)) < ln h a0 ∧ kd h a1 = 12 ∧ zcal WP d n_Es_given [.inr (.inr a1), .inl (m a0 (w32 (a3 + 1)))] m h (zk1 fun r1 m1 h1 =>
      kd h1 a0 = 101 ∧ (0 : Int) ≤ (w32 (a3 + 1)) ∧ (w32 (a3 + 1)) < ln h1 a0 ∧ kd h1 a2 = 13 ∧ zcal WP d n_Mo_given [.inr (.inr a2), .inl (m1 a0 (w32 (a3 + 1)))] m1 h1 (zk1 fun r2 m2 h2 =>
      (r1 = r2 →
        q_Lw_law_18 d a0 a1 a2 (w32 (a3 + 9)) m2 h2 Q) ∧
      (¬ (r1 = r2) →
        ((0 : Int) = 0 ∨ (0 : Int) = 1) ∧ Q (some (.inl (0 : Int))) m2 h2)))) ∧
    (¬ (zand (m a0 a3) 63) = 28 →
    ((zand (m a0 a3) 63) = 29 →
      kd h a1 = 12 ∧ zcal WP d n_Es_lack [.inr (.inr a1)] m h (zk1 fun r1 m1 h1 =>
      kd h1 a2 = 13 ∧ zcal WP d n_Mo_lack [.inr (.inr a2)] m1 h1 (zk1 fun r2 m2 h2 =>
      (r1 = r2 →
        q_Lw_law_18 d a0 a1 a2 (w32 (a3 + 9)) m2 h2 Q) ∧
      (¬ (r1 = r2) →
        ((0 : Int) = 0 ∨ (0 : Int) = 1) ∧ Q (some (.inl (0 : Int))) m2 h2)))) ∧
    (¬ (zand (m a0 a3) 63) = 29 →
    ((zand (m a0 a3) 63) = 30 →
      kd h a0 = 101 ∧ (0 : Int) ≤ (w32 (a3 + 1)) ∧ (w32 (a3 + 1)) < ln h a0 ∧ ((m a0 (w32 (a3 + 1))) = 0 →
        q_Lw_law_1398 d a0 a1 a2 a3 0 a1 m h Q) ∧
      (¬ ((m a0 (w32 (a3 + 1))) = 0) →
        q_Lw_law_1398 d a0 a1 a2 a3 1 a1 m h Q)) ∧
    (¬ (zand (m a0 a3) 63) = 30 →
    ((zand (m a0 a3) 63) = 31 →
      kd h a1 = 12 ∧ zcal WP d n_Es_clear [.inr (.inr a1)] m h (zk0 fun m1 h1 =>
      kd h1 a2 = 13 ∧ zcal WP d n_Mo_clear [.inr (.inr a2)] m1 h1 (zk0 fun m2 h2 =>
      q_Lw_law_18 d a0 a1 a2 (w32 (a3 + 9)) m2 h2 Q))) ∧
    (¬ (zand (m a0 a3) 63) = 31 →
    ((zand (m a0 a3) 63) = 32 →
      kd h a0 = 101 ∧ (0 : Int) ≤ (w32 (a3 + 1)) ∧ (w32 (a3 + 1)) < ln h a0 ∧ kd h a1 = 12 ∧ zcal WP d n_Es_roads [.inr (.inr a1), .inl (m a0 (w32 (a3 + 1)))] m h (zk1 fun r1 m1 h1 =>
      kd h1 a0 = 101 ∧ (0 : Int) ≤ (w32 (a3 + 1)) ∧ (w32 (a3 + 1)) < ln h1 a0 ∧ kd h1 a2 = 13 ∧ zcal WP d n_Mo_roads [.inr (.inr a2), .inl (m1 a0 (w32 (a3 + 1)))] m1 h1 (zk1 fun r2 m2 h2 =>
      (r1 = r2 →
        q_Lw_law_18 d a0 a1 a2 (w32 (a3 + 9)) m2 h2 Q) ∧
      (¬ (r1 = r2) →
        ((0 : Int) = 0 ∨ (0 : Int) = 1) ∧ Q (some (.inl (0 : Int))) m2 h2)))) ∧
    (¬ (zand (m a0 a3) 63) = 32 →
    ((zand (m a0 a3) 63) = 33 →
      kd h a0 = 101 ∧ (0 : Int) ≤ (w32 (a3 + 1)) ∧ (w32 (a3 + 1)) < ln h a0 ∧ kd h a1 = 12 ∧ zcal WP d n_Es_road [.inr (.inr a1), .inl (m a0 (w32 (a3 + 1)))] m h (zk1 fun r1 m1 h1 =>
      kd h1 a0 = 101 ∧ (0 : Int) ≤ (w32 (a3 + 1)) ∧ (w32 (a3 + 1)) < ln h1 a0 ∧ kd h1 a2 = 13 ∧ zcal WP d n_Mo_road [.inr (.inr a2), .inl (m1 a0 (w32 (a3 + 1)))] m1 h1 (zk1 fun r2 m2 h2 =>
      (r1 = r2 →
        q_Lw_law_18 d a0 a1 a2 (w32 (a3 + 9)) m2 h2 Q) ∧
      (¬ (r1 = r2) →
        ((0 : Int) = 0 ∨ (0 : Int) = 1) ∧ Q (some (.inl (0 : Int))) m2 h2)))) ∧
    (¬ (zand (m a0 a3) 63) = 33 →
    ((zand (m a0 a3) 63) = 34 →
      kd h a0 = 101 ∧ (0 : Int) ≤ (w32 (a3 + 1)) ∧ (w32 (a3 + 1)) < ln h a0 ∧ kd h a0 = 101 ∧ (0 : Int) ≤ (w32 (a3 + 2)) ∧ (w32 (a3 + 2)) < ln h a0 ∧ kd h a0 = 101 ∧ (0 : Int) ≤ (w32 (a3 + 3)) ∧ (w32 (a3 + 3)) < ln h a0 ∧ ((m a0 (w32 (a3 + 3))) = 0 →
        q_Lw_law_1514 d a0 a1 a2 a3 0 (m a0 (w32 (a3 + 2))) (m a0 (w32 (a3 + 1))) a1 m h Q) ∧
      (¬ ((m a0 (w32 (a3 + 3))) = 0) →
        q_Lw_law_1514 d a0 a1 a2 a3 1 (m a0 (w32 (a3 + 2))) (m a0 (w32 (a3 + 1))) a1 m h Q)) ∧
    (¬ (zand (m a0 a3) 63) = 34 →
    ((zand (m a0 a3) 63) = 35 →
      kd h a0 = 101 ∧ (0 : Int) ≤ (w32 (a3 + 1)) ∧ (w32 (a3 + 1)) < ln h a0 ∧ kd h a0 = 101 ∧ (0 : Int) ≤ (w32 (a3 + 2)) ∧ (w32 (a3 + 2)) < ln h a0 ∧ kd h a0 = 101 ∧ (0 : Int) ≤ (w32 (a3 + 3)) ∧ (w32 (a3 + 3)) < ln h a0 ∧ kd h a0 = 101 ∧ (0 : Int) ≤ (w32 (a3 + 4)) ∧ (w32 (a3 + 4)) < ln h a0 ∧ kd h a0 = 101 ∧ (0 : Int) ≤ (w32 (a3 + 5)) ∧ (w32 (a3 + 5)) < ln h a0 ∧ kd h a1 = 12 ∧ zcal WP d n_Es_months [.inr (.inr a1), .inl (m a0 (w32 (a3 + 1))), .inl (m a0 (w32 (a3 + 2))), .inl (m a0 (w32 (a3 + 3))), .inl (m a0 (w32 (a3 + 4))), .inl (m a0 (w32 (a3 + 5)))] m h (zk1 fun r1 m1 h1 =>
      kd h1 a0 = 101 ∧ (0 : Int) ≤ (w32 (a3 + 1)) ∧ (w32 (a3 + 1)) < ln h1 a0 ∧ kd h1 a0 = 101 ∧ (0 : Int) ≤ (w32 (a3 + 2)) ∧ (w32 (a3 + 2)) < ln h1 a0 ∧ kd h1 a0 = 101 ∧ (0 : Int) ≤ (w32 (a3 + 3)) ∧ (w32 (a3 + 3)) < ln h1 a0 ∧ kd h1 a0 = 101 ∧ (0 : Int) ≤ (w32 (a3 + 4)) ∧ (w32 (a3 + 4)) < ln h1 a0 ∧ kd h1 a0 = 101 ∧ (0 : Int) ≤ (w32 (a3 + 5)) ∧ (w32 (a3 + 5)) < ln h1 a0 ∧ kd h1 a2 = 13 ∧ zcal WP d n_Mo_months [.inr (.inr a2), .inl (m1 a0 (w32 (a3 + 1))), .inl (m1 a0 (w32 (a3 + 2))), .inl (m1 a0 (w32 (a3 + 3))), .inl (m1 a0 (w32 (a3 + 4))), .inl (m1 a0 (w32 (a3 + 5)))] m1 h1 (zk1 fun r2 m2 h2 =>
      (r1 = r2 →
        q_Lw_law_18 d a0 a1 a2 (w32 (a3 + 9)) m2 h2 Q) ∧
      (¬ (r1 = r2) →
        ((0 : Int) = 0 ∨ (0 : Int) = 1) ∧ Q (some (.inl (0 : Int))) m2 h2)))) ∧
    (¬ (zand (m a0 a3) 63) = 35 →
    ((zand (m a0 a3) 63) = 36 →
      kd h a0 = 101 ∧ (0 : Int) ≤ (w32 (a3 + 1)) ∧ (w32 (a3 + 1)) < ln h a0 ∧ kd h a1 = 12 ∧ zcal WP d n_Es_month [.inr (.inr a1), .inl (m a0 (w32 (a3 + 1)))] m h (zk1 fun r1 m1 h1 =>
      kd h1 a0 = 101 ∧ (0 : Int) ≤ (w32 (a3 + 1)) ∧ (w32 (a3 + 1)) < ln h1 a0 ∧ kd h1 a2 = 13 ∧ zcal WP d n_Mo_month [.inr (.inr a2), .inl (m1 a0 (w32 (a3 + 1)))] m1 h1 (zk1 fun r2 m2 h2 =>
      (r1 = r2 →
        q_Lw_law_18 d a0 a1 a2 (w32 (a3 + 9)) m2 h2 Q) ∧
      (¬ (r1 = r2) →
        ((0 : Int) = 0 ∨ (0 : Int) = 1) ∧ Q (some (.inl (0 : Int))) m2 h2)))) ∧
    (¬ (zand (m a0 a3) 63) = 36 →
    ((zand (m a0 a3) 63) = 37 →
      kd h a0 = 101 ∧ (0 : Int) ≤ (w32 (a3 + 1)) ∧ (w32 (a3 + 1)) < ln h a0 ∧ kd h a1 = 12 ∧ zcal WP d n_Es_causes [.inr (.inr a1), .inl (m a0 (w32 (a3 + 1)))] m h (zk1 fun r1 m1 h1 =>
      kd h1 a0 = 101 ∧ (0 : Int) ≤ (w32 (a3 + 1)) ∧ (w32 (a3 + 1)) < ln h1 a0 ∧ kd h1 a2 = 13 ∧ zcal WP d n_Mo_causes [.inr (.inr a2), .inl (m1 a0 (w32 (a3 + 1)))] m1 h1 (zk1 fun r2 m2 h2 =>
      (r1 = r2 →
        q_Lw_law_18 d a0 a1 a2 (w32 (a3 + 9)) m2 h2 Q) ∧
      (¬ (r1 = r2) →
        ((0 : Int) = 0 ∨ (0 : Int) = 1) ∧ Q (some (.inl (0 : Int))) m2 h2)))) ∧
    (¬ (zand (m a0 a3) 63) = 37 →
    ((zand (m a0 a3) 63) = 38 →
      kd h a0 = 101 ∧ (0 : Int) ≤ (w32 (a3 + 1)) ∧ (w32 (a3 + 1)) < ln h a0 ∧ kd h a0 = 101 ∧ (0 : Int) ≤ (w32 (a3 + 2)) ∧ (w32 (a3 + 2)) < ln h a0 ∧ kd h a1 = 12 ∧ zcal WP d n_Es_cause [.inr (.inr a1), .inl (m a0 (w32 (a3 + 1))), .inl (m a0 (w32 (a3 + 2)))] m h (zk1 fun r1 m1 h1 =>
      kd h1 a0 = 101 ∧ (0 : Int) ≤ (w32 (a3 + 1)) ∧ (w32 (a3 + 1)) < ln h1 a0 ∧ kd h1 a0 = 101 ∧ (0 : Int) ≤ (w32 (a3 + 2)) ∧ (w32 (a3 + 2)) < ln h1 a0 ∧ kd h1 a2 = 13 ∧ zcal WP d n_Mo_cause [.inr (.inr a2), .inl (m1 a0 (w32 (a3 + 1))), .inl (m1 a0 (w32 (a3 + 2)))] m1 h1 (zk1 fun r2 m2 h2 =>
      (r1 = r2 →
        q_Lw_law_18 d a0 a1 a2 (w32 (a3 + 9)) m2 h2 Q) ∧
      (¬ (r1 = r2) →
        ((0 : Int) = 0 ∨ (0 : Int) = 1) ∧ Q (some (.inl (0 : Int))) m2 h2)))) ∧
    (¬ (zand (m a0 a3) 63) = 38 →
    ((zand (m a0 a3) 63) = 39 →
      kd h a0 = 101 ∧ (0 : Int) ≤ (w32 (a3 + 1)) ∧ (w32 (a3 + 1)) < ln h a0 ∧ kd h a0 = 101 ∧ (0 : Int) ≤ (w32 (a3 + 2)) ∧ (w32 (a3 + 2)) < ln h a0 ∧ kd h a1 = 12 ∧ zcal WP d n_Es_turned [.inr (.inr a1), .inl (m a0 (w32 (a3 + 1))), .inl (m a0 (w32 (a3 + 2)))] m h (zk1 fun r1 m1 h1 =>
      kd h1 a0 = 101 ∧ (0 : Int) ≤ (w32 (a3 + 1)) ∧ (w32 (a3 + 1)) < ln h1 a0 ∧ kd h1 a0 = 101 ∧ (0 : Int) ≤ (w32 (a3 + 2)) ∧ (w32 (a3 + 2)) < ln h1 a0 ∧ kd h1 a2 = 13 ∧ zcal WP d n_Mo_turned [.inr (.inr a2), .inl (m1 a0 (w32 (a3 + 1))), .inl (m1 a0 (w32 (a3 + 2)))] m1 h1 (zk1 fun r2 m2 h2 =>
      (r1 = r2 →
        q_Lw_law_18 d a0 a1 a2 (w32 (a3 + 9)) m2 h2 Q) ∧
      (¬ (r1 = r2) →
        ((0 : Int) = 0 ∨ (0 : Int) = 1) ∧ Q (some (.inl (0 : Int))) m2 h2)))) ∧
    (¬ (zand (m a0 a3) 63) = 39 →
    ((zand (m a0 a3) 63) = 40 →
      kd h a0 = 101 ∧ (0 : Int) ≤ (w32 (a3 + 1)) ∧ (w32 (a3 + 1)) < ln h a0 ∧ kd h a1 = 12 ∧ zcal WP d n_Es_count [.inr (.inr a1), .inl (m a0 (w32 (a3 + 1)))] m h (zk1 fun r1 m1 h1 =>
      kd h1 a0 = 101 ∧ (0 : Int) ≤ (w32 (a3 + 1)) ∧ (w32 (a3 + 1)) < ln h1 a0 ∧ kd h1 a2 = 13 ∧ zcal WP d n_Mo_count [.inr (.inr a2), .inl (m1 a0 (w32 (a3 + 1)))] m1 h1 (zk1 fun r2 m2 h2 =>
      (r1 = r2 →
        q_Lw_law_18 d a0 a1 a2 (w32 (a3 + 9)) m2 h2 Q) ∧
      (¬ (r1 = r2) →
        ((0 : Int) = 0 ∨ (0 : Int) = 1) ∧ Q (some (.inl (0 : Int))) m2 h2)))) ∧
    (¬ (zand (m a0 a3) 63) = 40 →
      q_Lw_law_18 d a0 a1 a2 (w32 (a3 + 9)) m h Q))))))))))))))))))))))))))))))))))))))))))) : q_Lw_law_18 d a0 a1 a2 a3 m h Q := zvc_ok zc_Lw_law zm_Lw_law 1286 (fun _ => rfl) H
set_option maxRecDepth 100000 in
set_option maxHeartbeats 8000000 in
theorem s_Lw_law_488 (d : Nat) (a0 a1 a2 a3 s0 s1 s2 s3 s4 s5 s6 s7 s8 : Int) (m : zM) (h : zH) (Q : zQ) (H :
  kd h s8 = 12 ∧ zcal WP d n_Es_turn [.inr (.inr s8), .inl s7, .inl s6, .inl s5, .inl s4, .inl s3, .inl s2, .inl s1, .inl s0] m h (zk1 fun r1 m1 h1 =>
  kd h1 a0 = 101 ∧ (0 : Int) ≤ (w32 (a3 + 1)) ∧ (w32 (a3 + 1)) < ln h1 a0 ∧ kd h1 a0 = 101 ∧ (0 : Int) ≤ (w32 (a3 + 2)) ∧ (w32 (a3 + 2)) < ln h1 a0 ∧ kd h1 a0 = 101 ∧ (0 : Int) ≤ (w32 (a3 + 3)) ∧ (w32 (a3 + 3)) < ln h1 a0 ∧ kd h1 a0 = 101 ∧ (0 : Int) ≤ (w32 (a3 + 4)) ∧ (w32 (a3 + 4)) < ln h1 a0 ∧ kd h1 a0 = 101 ∧ (0 : Int) ≤ (w32 (a3 + 5)) ∧ (w32 (a3 + 5)) < ln h1 a0 ∧ kd h1 a0 = 101 ∧ (0 : Int) ≤ (w32 (a3 + 6)) ∧ (w32 (a3 + 6)) < ln h1 a0 ∧ kd h1 a0 = 101 ∧ (0 : Int) ≤ (w32 (a3 + 7)) ∧ (w32 (a3 + 7)) < ln h1 a0 ∧ kd h1 a0 = 101 ∧ (0 : Int) ≤ (w32 (a3 + 8)) ∧ (w32 (a3 + 8)) < ln h1 a0 ∧ ((m1 a0 (w32 (a3 + 8))) = 0 →
    kd h1 a2 = 13 ∧ zcal WP d n_Mo_turn [.inr (.inr a2), .inl (m1 a0 (w32 (a3 + 1))), .inl (m1 a0 (w32 (a3 + 2))), .inl (m1 a0 (w32 (a3 + 3))), .inl (m1 a0 (w32 (a3 + 4))), .inl (m1 a0 (w32 (a3 + 5))), .inl (m1 a0 (w32 (a3 + 6))), .inl (m1 a0 (w32 (a3 + 7))), .inl 0] m1 h1 (zk1 fun r2 m2 h2 =>
    (r1 = r2 →
      q_Lw_law_18 d a0 a1 a2 (w32 (a3 + 9)) m2 h2 Q) ∧
    (¬ (r1 = r2) →
      ((0 : Int) = 0 ∨ (0 : Int) = 1) ∧ Q (some (.inl (0 : Int))) m2 h2))) ∧
  (¬ ((m1 a0 (w32 (a3 + 8))) = 0) →
    kd h1 a2 = 13 ∧ zcal WP d n_Mo_turn [.inr (.inr a2), .inl (m1 a0 (w32 (a3 + 1))), .inl (m1 a0 (w32 (a3 + 2))), .inl (m1 a0 (w32 (a3 + 3))), .inl (m1 a0 (w32 (a3 + 4))), .inl (m1 a0 (w32 (a3 + 5))), .inl (m1 a0 (w32 (a3 + 6))), .inl (m1 a0 (w32 (a3 + 7))), .inl 1] m1 h1 (zk1 fun r2 m2 h2 =>
    (r1 = r2 →
      q_Lw_law_18 d a0 a1 a2 (w32 (a3 + 9)) m2 h2 Q) ∧
    (¬ (r1 = r2) →
      ((0 : Int) = 0 ∨ (0 : Int) = 1) ∧ Q (some (.inl (0 : Int))) m2 h2))))) : q_Lw_law_488 d a0 a1 a2 a3 s0 s1 s2 s3 s4 s5 s6 s7 s8 m h Q := zvc_ok zc_Lw_law zm_Lw_law 1286 (fun _ => rfl) H
set_option maxRecDepth 100000 in
set_option maxHeartbeats 8000000 in
theorem s_Lw_law_1398 (d : Nat) (a0 a1 a2 a3 s0 s1 : Int) (m : zM) (h : zH) (Q : zQ) (H :
  kd h a0 = 101 ∧ (0 : Int) ≤ (w32 (a3 + 2)) ∧ (w32 (a3 + 2)) < ln h a0 ∧ kd h s1 = 12 ∧ zcal WP d n_Es_lines [.inr (.inr s1), .inl s0, .inl (m a0 (w32 (a3 + 2)))] m h (zk1 fun r1 m1 h1 =>
  kd h1 a0 = 101 ∧ (0 : Int) ≤ (w32 (a3 + 1)) ∧ (w32 (a3 + 1)) < ln h1 a0 ∧ ((m1 a0 (w32 (a3 + 1))) = 0 →
    q_Lw_law_1420 d a0 a1 a2 a3 0 a2 r1 m1 h1 Q) ∧
  (¬ ((m1 a0 (w32 (a3 + 1))) = 0) →
    q_Lw_law_1420 d a0 a1 a2 a3 1 a2 r1 m1 h1 Q))) : q_Lw_law_1398 d a0 a1 a2 a3 s0 s1 m h Q := zvc_ok zc_Lw_law zm_Lw_law 1286 (fun _ => rfl) H
set_option maxRecDepth 100000 in
set_option maxHeartbeats 8000000 in
theorem s_Lw_law_1420 (d : Nat) (a0 a1 a2 a3 s0 s1 s2 : Int) (m : zM) (h : zH) (Q : zQ) (H :
  kd h a0 = 101 ∧ (0 : Int) ≤ (w32 (a3 + 2)) ∧ (w32 (a3 + 2)) < ln h a0 ∧ kd h s1 = 13 ∧ zcal WP d n_Mo_lines [.inr (.inr s1), .inl s0, .inl (m a0 (w32 (a3 + 2)))] m h (zk1 fun r1 m1 h1 =>
  (s2 = r1 →
    q_Lw_law_18 d a0 a1 a2 (w32 (a3 + 9)) m1 h1 Q) ∧
  (¬ (s2 = r1) →
    ((0 : Int) = 0 ∨ (0 : Int) = 1) ∧ Q (some (.inl (0 : Int))) m1 h1))) : q_Lw_law_1420 d a0 a1 a2 a3 s0 s1 s2 m h Q := zvc_ok zc_Lw_law zm_Lw_law 1286 (fun _ => rfl) H
set_option maxRecDepth 100000 in
set_option maxHeartbeats 8000000 in
theorem s_Lw_law_1514 (d : Nat) (a0 a1 a2 a3 s0 s1 s2 s3 : Int) (m : zM) (h : zH) (Q : zQ) (H :
  kd h s3 = 12 ∧ zcal WP d n_Es_may [.inr (.inr s3), .inl s2, .inl s1, .inl s0] m h (zk1 fun r1 m1 h1 =>
  kd h1 a0 = 101 ∧ (0 : Int) ≤ (w32 (a3 + 1)) ∧ (w32 (a3 + 1)) < ln h1 a0 ∧ kd h1 a0 = 101 ∧ (0 : Int) ≤ (w32 (a3 + 2)) ∧ (w32 (a3 + 2)) < ln h1 a0 ∧ kd h1 a0 = 101 ∧ (0 : Int) ≤ (w32 (a3 + 3)) ∧ (w32 (a3 + 3)) < ln h1 a0 ∧ ((m1 a0 (w32 (a3 + 3))) = 0 →
    kd h1 a2 = 13 ∧ zcal WP d n_Mo_may [.inr (.inr a2), .inl (m1 a0 (w32 (a3 + 1))), .inl (m1 a0 (w32 (a3 + 2))), .inl 0] m1 h1 (zk1 fun r2 m2 h2 =>
    (r1 = r2 →
      q_Lw_law_18 d a0 a1 a2 (w32 (a3 + 9)) m2 h2 Q) ∧
    (¬ (r1 = r2) →
      ((0 : Int) = 0 ∨ (0 : Int) = 1) ∧ Q (some (.inl (0 : Int))) m2 h2))) ∧
  (¬ ((m1 a0 (w32 (a3 + 3))) = 0) →
    kd h1 a2 = 13 ∧ zcal WP d n_Mo_may [.inr (.inr a2), .inl (m1 a0 (w32 (a3 + 1))), .inl (m1 a0 (w32 (a3 + 2))), .inl 1] m1 h1 (zk1 fun r2 m2 h2 =>
    (r1 = r2 →
      q_Lw_law_18 d a0 a1 a2 (w32 (a3 + 9)) m2 h2 Q) ∧
    (¬ (r1 = r2) →
      ((0 : Int) = 0 ∨ (0 : Int) = 1) ∧ Q (some (.inl (0 : Int))) m2 h2))))) : q_Lw_law_1514 d a0 a1 a2 a3 s0 s1 s2 s3 m h Q := zvc_ok zc_Lw_law zm_Lw_law 1286 (fun _ => rfl) H
theorem e_Lw_law (d : Nat) (a0 : Int) (m : zM) (h : zH) (Q : zQ) (H : q_Lw_law_0 d a0 m h Q) : zcal WP (d + 1) n_Lw_law [.inr (.inr a0)] m h Q := zcal_mk rfl H

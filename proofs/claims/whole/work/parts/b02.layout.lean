/-! LAYOUT: the fixed objects have literal ids; their references, kinds and lengths; which cells of the model are data. -/
def zrv (i j : Int) : Int := bif decide (j < 0) then 0 else
    bif decide (i = 1) then ([2, 9, 19, 28, 35, 43, 52] : List Int).getD j.toNat 0 else
    bif decide (i = 2) then ([3, 4, 0, 0, 5, 6, 0, 7, 8] : List Int).getD j.toNat 0 else
    bif decide (i = 9) then ([10, 0, 0, 0, 18] : List Int).getD j.toNat 0 else
    bif decide (i = 19) then ([0, 20, 21, 0, 22, 0, 23, 0, 24, 0, 2, 25, 0, 26, 27] : List Int).getD j.toNat 0 else
    bif decide (i = 28) then ([29, 0, 30, 0, 31, 32, 33, 34] : List Int).getD j.toNat 0 else
    bif decide (i = 35) then ([0, 0, 36, 37, 38, 39, 40, 41, 42] : List Int).getD j.toNat 0 else
    bif decide (i = 43) then ([44, 45, 46, 0, 47, 0, 48, 49, 50, 51] : List Int).getD j.toNat 0 else
    bif decide (i = 52) then ([0, 53] : List Int).getD j.toNat 0 else
    bif decide (i = 54) then ([0, 55, 0, 56, 0, 57, 58, 59, 60, 61, 0, 0, 0, 0, 0, 0, 0, 0, 0, 62, 63, 64, 65, 66, 67, 68, 69, 0, 70, 71, 72, 73, 74, 75, 0, 76, 77, 78, 0, 79, 80, 0, 0, 0, 81, 0, 82, 0, 83, 84, 0, 85, 0, 86, 87, 88, 89, 90, 91, 92, 93, 0, 94, 95, 96, 97, 98, 0, 99, 100, 101, 102, 103, 104, 105, 106, 107, 108, 109, 110, 111, 112, 113, 114, 115, 116, 117, 118, 119, 120, 121, 122, 123, 124, 125, 126, 127, 128, 0, 129, 0, 0, 130, 131, 132, 0, 0, 133, 134, 135, 136, 137, 138, 139, 140, 0, 141, 0, 0, 142] : List Int).getD j.toNat 0 else
    0
def zFix (m : zM) : Prop := ∀ i j, zrv i j ≠ 0 → m i j = zrv i j
theorem f1_0 {m : zM} (F : zFix m) : m 1 0 = 2 := F 1 0 (by decide)
theorem f1_1 {m : zM} (F : zFix m) : m 1 1 = 9 := F 1 1 (by decide)
theorem f1_2 {m : zM} (F : zFix m) : m 1 2 = 19 := F 1 2 (by decide)
theorem f1_3 {m : zM} (F : zFix m) : m 1 3 = 28 := F 1 3 (by decide)
theorem f1_4 {m : zM} (F : zFix m) : m 1 4 = 35 := F 1 4 (by decide)
theorem f1_5 {m : zM} (F : zFix m) : m 1 5 = 43 := F 1 5 (by decide)
theorem f1_6 {m : zM} (F : zFix m) : m 1 6 = 52 := F 1 6 (by decide)
theorem f2_0 {m : zM} (F : zFix m) : m 2 0 = 3 := F 2 0 (by decide)
theorem f2_1 {m : zM} (F : zFix m) : m 2 1 = 4 := F 2 1 (by decide)
theorem f2_4 {m : zM} (F : zFix m) : m 2 4 = 5 := F 2 4 (by decide)
theorem f2_5 {m : zM} (F : zFix m) : m 2 5 = 6 := F 2 5 (by decide)
theorem f2_7 {m : zM} (F : zFix m) : m 2 7 = 7 := F 2 7 (by decide)
theorem f2_8 {m : zM} (F : zFix m) : m 2 8 = 8 := F 2 8 (by decide)
theorem f9_0 {m : zM} (F : zFix m) : m 9 0 = 10 := F 9 0 (by decide)
theorem f9_4 {m : zM} (F : zFix m) : m 9 4 = 18 := F 9 4 (by decide)
theorem f19_1 {m : zM} (F : zFix m) : m 19 1 = 20 := F 19 1 (by decide)
theorem f19_2 {m : zM} (F : zFix m) : m 19 2 = 21 := F 19 2 (by decide)
theorem f19_4 {m : zM} (F : zFix m) : m 19 4 = 22 := F 19 4 (by decide)
theorem f19_6 {m : zM} (F : zFix m) : m 19 6 = 23 := F 19 6 (by decide)
theorem f19_8 {m : zM} (F : zFix m) : m 19 8 = 24 := F 19 8 (by decide)
theorem f19_10 {m : zM} (F : zFix m) : m 19 10 = 2 := F 19 10 (by decide)
theorem f19_11 {m : zM} (F : zFix m) : m 19 11 = 25 := F 19 11 (by decide)
theorem f19_13 {m : zM} (F : zFix m) : m 19 13 = 26 := F 19 13 (by decide)
theorem f19_14 {m : zM} (F : zFix m) : m 19 14 = 27 := F 19 14 (by decide)
theorem f28_0 {m : zM} (F : zFix m) : m 28 0 = 29 := F 28 0 (by decide)
theorem f28_2 {m : zM} (F : zFix m) : m 28 2 = 30 := F 28 2 (by decide)
theorem f28_4 {m : zM} (F : zFix m) : m 28 4 = 31 := F 28 4 (by decide)
theorem f28_5 {m : zM} (F : zFix m) : m 28 5 = 32 := F 28 5 (by decide)
theorem f28_6 {m : zM} (F : zFix m) : m 28 6 = 33 := F 28 6 (by decide)
theorem f28_7 {m : zM} (F : zFix m) : m 28 7 = 34 := F 28 7 (by decide)
theorem f35_2 {m : zM} (F : zFix m) : m 35 2 = 36 := F 35 2 (by decide)
theorem f35_3 {m : zM} (F : zFix m) : m 35 3 = 37 := F 35 3 (by decide)
theorem f35_4 {m : zM} (F : zFix m) : m 35 4 = 38 := F 35 4 (by decide)
theorem f35_5 {m : zM} (F : zFix m) : m 35 5 = 39 := F 35 5 (by decide)
theorem f35_6 {m : zM} (F : zFix m) : m 35 6 = 40 := F 35 6 (by decide)
theorem f35_7 {m : zM} (F : zFix m) : m 35 7 = 41 := F 35 7 (by decide)
theorem f35_8 {m : zM} (F : zFix m) : m 35 8 = 42 := F 35 8 (by decide)
theorem f43_0 {m : zM} (F : zFix m) : m 43 0 = 44 := F 43 0 (by decide)
theorem f43_1 {m : zM} (F : zFix m) : m 43 1 = 45 := F 43 1 (by decide)
theorem f43_2 {m : zM} (F : zFix m) : m 43 2 = 46 := F 43 2 (by decide)
theorem f43_4 {m : zM} (F : zFix m) : m 43 4 = 47 := F 43 4 (by decide)
theorem f43_6 {m : zM} (F : zFix m) : m 43 6 = 48 := F 43 6 (by decide)
theorem f43_7 {m : zM} (F : zFix m) : m 43 7 = 49 := F 43 7 (by decide)
theorem f43_8 {m : zM} (F : zFix m) : m 43 8 = 50 := F 43 8 (by decide)
theorem f43_9 {m : zM} (F : zFix m) : m 43 9 = 51 := F 43 9 (by decide)
theorem f52_1 {m : zM} (F : zFix m) : m 52 1 = 53 := F 52 1 (by decide)
theorem f54_1 {m : zM} (F : zFix m) : m 54 1 = 55 := F 54 1 (by decide)
theorem f54_3 {m : zM} (F : zFix m) : m 54 3 = 56 := F 54 3 (by decide)
theorem f54_5 {m : zM} (F : zFix m) : m 54 5 = 57 := F 54 5 (by decide)
theorem f54_6 {m : zM} (F : zFix m) : m 54 6 = 58 := F 54 6 (by decide)
theorem f54_7 {m : zM} (F : zFix m) : m 54 7 = 59 := F 54 7 (by decide)
theorem f54_8 {m : zM} (F : zFix m) : m 54 8 = 60 := F 54 8 (by decide)
theorem f54_9 {m : zM} (F : zFix m) : m 54 9 = 61 := F 54 9 (by decide)
theorem f54_19 {m : zM} (F : zFix m) : m 54 19 = 62 := F 54 19 (by decide)
theorem f54_20 {m : zM} (F : zFix m) : m 54 20 = 63 := F 54 20 (by decide)
theorem f54_21 {m : zM} (F : zFix m) : m 54 21 = 64 := F 54 21 (by decide)
theorem f54_22 {m : zM} (F : zFix m) : m 54 22 = 65 := F 54 22 (by decide)
theorem f54_23 {m : zM} (F : zFix m) : m 54 23 = 66 := F 54 23 (by decide)
theorem f54_24 {m : zM} (F : zFix m) : m 54 24 = 67 := F 54 24 (by decide)
theorem f54_25 {m : zM} (F : zFix m) : m 54 25 = 68 := F 54 25 (by decide)
theorem f54_26 {m : zM} (F : zFix m) : m 54 26 = 69 := F 54 26 (by decide)
theorem f54_28 {m : zM} (F : zFix m) : m 54 28 = 70 := F 54 28 (by decide)
theorem f54_29 {m : zM} (F : zFix m) : m 54 29 = 71 := F 54 29 (by decide)
theorem f54_30 {m : zM} (F : zFix m) : m 54 30 = 72 := F 54 30 (by decide)
theorem f54_31 {m : zM} (F : zFix m) : m 54 31 = 73 := F 54 31 (by decide)
theorem f54_32 {m : zM} (F : zFix m) : m 54 32 = 74 := F 54 32 (by decide)
theorem f54_33 {m : zM} (F : zFix m) : m 54 33 = 75 := F 54 33 (by decide)
theorem f54_35 {m : zM} (F : zFix m) : m 54 35 = 76 := F 54 35 (by decide)
theorem f54_36 {m : zM} (F : zFix m) : m 54 36 = 77 := F 54 36 (by decide)
theorem f54_37 {m : zM} (F : zFix m) : m 54 37 = 78 := F 54 37 (by decide)
theorem f54_39 {m : zM} (F : zFix m) : m 54 39 = 79 := F 54 39 (by decide)
theorem f54_40 {m : zM} (F : zFix m) : m 54 40 = 80 := F 54 40 (by decide)
theorem f54_44 {m : zM} (F : zFix m) : m 54 44 = 81 := F 54 44 (by decide)
theorem f54_46 {m : zM} (F : zFix m) : m 54 46 = 82 := F 54 46 (by decide)
theorem f54_48 {m : zM} (F : zFix m) : m 54 48 = 83 := F 54 48 (by decide)
theorem f54_49 {m : zM} (F : zFix m) : m 54 49 = 84 := F 54 49 (by decide)
theorem f54_51 {m : zM} (F : zFix m) : m 54 51 = 85 := F 54 51 (by decide)
theorem f54_53 {m : zM} (F : zFix m) : m 54 53 = 86 := F 54 53 (by decide)
theorem f54_54 {m : zM} (F : zFix m) : m 54 54 = 87 := F 54 54 (by decide)
theorem f54_55 {m : zM} (F : zFix m) : m 54 55 = 88 := F 54 55 (by decide)
theorem f54_56 {m : zM} (F : zFix m) : m 54 56 = 89 := F 54 56 (by decide)
theorem f54_57 {m : zM} (F : zFix m) : m 54 57 = 90 := F 54 57 (by decide)
theorem f54_58 {m : zM} (F : zFix m) : m 54 58 = 91 := F 54 58 (by decide)
theorem f54_59 {m : zM} (F : zFix m) : m 54 59 = 92 := F 54 59 (by decide)
theorem f54_60 {m : zM} (F : zFix m) : m 54 60 = 93 := F 54 60 (by decide)
theorem f54_62 {m : zM} (F : zFix m) : m 54 62 = 94 := F 54 62 (by decide)
theorem f54_63 {m : zM} (F : zFix m) : m 54 63 = 95 := F 54 63 (by decide)
theorem f54_64 {m : zM} (F : zFix m) : m 54 64 = 96 := F 54 64 (by decide)
theorem f54_65 {m : zM} (F : zFix m) : m 54 65 = 97 := F 54 65 (by decide)
theorem f54_66 {m : zM} (F : zFix m) : m 54 66 = 98 := F 54 66 (by decide)
theorem f54_68 {m : zM} (F : zFix m) : m 54 68 = 99 := F 54 68 (by decide)
theorem f54_69 {m : zM} (F : zFix m) : m 54 69 = 100 := F 54 69 (by decide)
theorem f54_70 {m : zM} (F : zFix m) : m 54 70 = 101 := F 54 70 (by decide)
theorem f54_71 {m : zM} (F : zFix m) : m 54 71 = 102 := F 54 71 (by decide)
theorem f54_72 {m : zM} (F : zFix m) : m 54 72 = 103 := F 54 72 (by decide)
theorem f54_73 {m : zM} (F : zFix m) : m 54 73 = 104 := F 54 73 (by decide)
theorem f54_74 {m : zM} (F : zFix m) : m 54 74 = 105 := F 54 74 (by decide)
theorem f54_75 {m : zM} (F : zFix m) : m 54 75 = 106 := F 54 75 (by decide)
theorem f54_76 {m : zM} (F : zFix m) : m 54 76 = 107 := F 54 76 (by decide)
theorem f54_77 {m : zM} (F : zFix m) : m 54 77 = 108 := F 54 77 (by decide)
theorem f54_78 {m : zM} (F : zFix m) : m 54 78 = 109 := F 54 78 (by decide)
theorem f54_79 {m : zM} (F : zFix m) : m 54 79 = 110 := F 54 79 (by decide)
theorem f54_80 {m : zM} (F : zFix m) : m 54 80 = 111 := F 54 80 (by decide)
theorem f54_81 {m : zM} (F : zFix m) : m 54 81 = 112 := F 54 81 (by decide)
theorem f54_82 {m : zM} (F : zFix m) : m 54 82 = 113 := F 54 82 (by decide)
theorem f54_83 {m : zM} (F : zFix m) : m 54 83 = 114 := F 54 83 (by decide)
theorem f54_84 {m : zM} (F : zFix m) : m 54 84 = 115 := F 54 84 (by decide)
theorem f54_85 {m : zM} (F : zFix m) : m 54 85 = 116 := F 54 85 (by decide)
theorem f54_86 {m : zM} (F : zFix m) : m 54 86 = 117 := F 54 86 (by decide)
theorem f54_87 {m : zM} (F : zFix m) : m 54 87 = 118 := F 54 87 (by decide)
theorem f54_88 {m : zM} (F : zFix m) : m 54 88 = 119 := F 54 88 (by decide)
theorem f54_89 {m : zM} (F : zFix m) : m 54 89 = 120 := F 54 89 (by decide)
theorem f54_90 {m : zM} (F : zFix m) : m 54 90 = 121 := F 54 90 (by decide)
theorem f54_91 {m : zM} (F : zFix m) : m 54 91 = 122 := F 54 91 (by decide)
theorem f54_92 {m : zM} (F : zFix m) : m 54 92 = 123 := F 54 92 (by decide)
theorem f54_93 {m : zM} (F : zFix m) : m 54 93 = 124 := F 54 93 (by decide)
theorem f54_94 {m : zM} (F : zFix m) : m 54 94 = 125 := F 54 94 (by decide)
theorem f54_95 {m : zM} (F : zFix m) : m 54 95 = 126 := F 54 95 (by decide)
theorem f54_96 {m : zM} (F : zFix m) : m 54 96 = 127 := F 54 96 (by decide)
theorem f54_97 {m : zM} (F : zFix m) : m 54 97 = 128 := F 54 97 (by decide)
theorem f54_99 {m : zM} (F : zFix m) : m 54 99 = 129 := F 54 99 (by decide)
theorem f54_102 {m : zM} (F : zFix m) : m 54 102 = 130 := F 54 102 (by decide)
theorem f54_103 {m : zM} (F : zFix m) : m 54 103 = 131 := F 54 103 (by decide)
theorem f54_104 {m : zM} (F : zFix m) : m 54 104 = 132 := F 54 104 (by decide)
theorem f54_107 {m : zM} (F : zFix m) : m 54 107 = 133 := F 54 107 (by decide)
theorem f54_108 {m : zM} (F : zFix m) : m 54 108 = 134 := F 54 108 (by decide)
theorem f54_109 {m : zM} (F : zFix m) : m 54 109 = 135 := F 54 109 (by decide)
theorem f54_110 {m : zM} (F : zFix m) : m 54 110 = 136 := F 54 110 (by decide)
theorem f54_111 {m : zM} (F : zFix m) : m 54 111 = 137 := F 54 111 (by decide)
theorem f54_112 {m : zM} (F : zFix m) : m 54 112 = 138 := F 54 112 (by decide)
theorem f54_113 {m : zM} (F : zFix m) : m 54 113 = 139 := F 54 113 (by decide)
theorem f54_114 {m : zM} (F : zFix m) : m 54 114 = 140 := F 54 114 (by decide)
theorem f54_116 {m : zM} (F : zFix m) : m 54 116 = 141 := F 54 116 (by decide)
theorem f54_119 {m : zM} (F : zFix m) : m 54 119 = 142 := F 54 119 (by decide)
theorem zrv_ob {i j : Int} (q : zrv i j ≠ 0) : i = 1 ∨ i = 2 ∨ i = 9 ∨ i = 19 ∨ i = 28 ∨ i = 35 ∨ i = 43 ∨ i = 52 ∨ i = 54 := by
  apply Classical.byContradiction; intro z; apply q; unfold zrv
  by_cases hj : j < 0
  · rw [decide_eq_true hj]; rfl
  · rw [decide_eq_false hj]
    rw [decide_eq_false (by omega : ¬ i = 1)]
    rw [decide_eq_false (by omega : ¬ i = 2)]
    rw [decide_eq_false (by omega : ¬ i = 9)]
    rw [decide_eq_false (by omega : ¬ i = 19)]
    rw [decide_eq_false (by omega : ¬ i = 28)]
    rw [decide_eq_false (by omega : ¬ i = 35)]
    rw [decide_eq_false (by omega : ¬ i = 43)]
    rw [decide_eq_false (by omega : ¬ i = 52)]
    rw [decide_eq_false (by omega : ¬ i = 54)]
    rfl
theorem zFix_wr {m : zM} {a i v : Int} (F : zFix m) (q : zrv a i = 0) : zFix (zwr m a i v) := by
  intro b j e
  rw [zwr_ne]; exact F b j e
  apply Classical.byContradiction; intro z
  have : b = a ∧ j = i := ⟨Classical.byContradiction fun y => z (Or.inl y), Classical.byContradiction fun y => z (Or.inr y)⟩
  rw [this.1, this.2] at e; exact e q
theorem zrv_0 {a i : Int} (h : ¬ (a = 1 ∨ a = 2 ∨ a = 9 ∨ a = 19 ∨ a = 28 ∨ a = 35 ∨ a = 43 ∨ a = 52 ∨ a = 54)) : zrv a i = 0 := Classical.byContradiction fun q => h (zrv_ob q)
theorem zwr_ap (m : zM) (a i v b j : Int) : zwr m a i v b j = if b = a ∧ j = i then v else m b j := by
  unfold zwr; by_cases h1 : b = a <;> by_cases h2 : j = i <;> simp [h1, h2]
theorem zk0_ap {P : zM → zH → Prop} {m : zM} {h : zH} : zk0 P none m h = P m h := by unfold zk0; simp
theorem zk1_ap {P : Int → zM → zH → Prop} {m : zM} {h : zH} {v : Int} : zk1 P (some (.inl v)) m h = P v m h := by unfold zk1; simp
theorem zk2_ap {P : Int → zM → zH → Prop} {m : zM} {h : zH} {v : Int} : zk2 P (some (.inr (.inl v))) m h = P v m h := by unfold zk2; simp
theorem zk3_ap {P : Int → zM → zH → Prop} {m : zM} {h : zH} {v : Int} : zk3 P (some (.inr (.inr v))) m h = P v m h := by unfold zk3; simp
def zKL : List Int := [0, 12, 3, 101, 101, 120, 101, 101, 101, 8, 102, 10, 101, 104, 101, 101, 101, 101, 101, 2, 101, 116, 101, 121, 117, 101, 101, 101, 5, 101, 101, 101, 101, 101, 101, 9, 101, 101, 101, 101, 101, 101, 101, 4, 101, 101, 101, 101, 101, 101, 101, 101, 1, 101, 13, 102, 102, 101, 101, 101, 104, 104, 101, 101, 101, 104, 101, 101, 101, 101, 101, 103, 103, 101, 101, 101, 101, 101, 101, 101, 101, 101, 101, 101, 101, 101, 101, 101, 101, 101, 101, 101, 101, 103, 101, 101, 101, 101, 101, 101, 101, 101, 101, 101, 101, 101, 101, 103, 101, 101, 103, 101, 101, 103, 101, 101, 103, 101, 101, 101, 101, 101, 103, 101, 103, 101, 101, 101, 101, 101, 101, 101, 101, 101, 101, 103, 101, 101, 101, 103, 103, 101, 103]
def zNL : List Int := [0, 0, 0, 144, 144, 6, 6, 12, 64, 0, 2000, 0, 400, 24, 24, 24, 24, 24, 400, 0, 25, 9, 8, 12, 180, 180, 180, 8, 0, 12, 8, 8, 72, 256, 512, 0, 9, 7, 7, 7, 7, 7, 3, 0, 12, 9, 5, 8, 256, 32, 5, 5, 0, 180, 0, 2000, 2000, 403, 403, 403, 403, 23, 7, 7, 168, 168, 168, 168, 168, 168, 980, 980, 980, 980, 980, 980, 2800, 2800, 64, 12, 400, 144, 25, 9, 9, 8, 12, 12, 12, 12, 12, 12, 12, 12, 180, 180, 180, 180, 180, 9, 9, 9, 9, 9, 9, 9, 9, 9, 9, 9, 9, 8, 8, 12, 7560, 7560, 1080, 180, 180, 180, 180, 180, 180, 180, 180, 180, 180, 108, 8, 4608, 12, 7, 7, 9, 7, 72, 9, 5, 5, 32, 4096, 180, 180]
def zLay (h : zH) : Prop := 142 < nx h ∧ (kd h (-2) = 101 ∧ ln h (-2) = 12 ∧ kd h (-3) = 14 ∧ kd h (-4) = 14 ∧ kd h (-5) = 14 ∧ kd h (-6) = 14) ∧ kd h (-1) = 101 ∧ ∀ i : Nat, 0 < i → i ≤ 142 → kd h i = zKL.getD i 0 ∧ ln h i = zNL.getD i 0
theorem k1 {h : zH} (L : zLay h) : kd h 1 = 12 := (L.2.2.2 1 (by decide) (by decide)).1
theorem k2 {h : zH} (L : zLay h) : kd h 2 = 3 := (L.2.2.2 2 (by decide) (by decide)).1
theorem k3 {h : zH} (L : zLay h) : kd h 3 = 101 := (L.2.2.2 3 (by decide) (by decide)).1
theorem l3 {h : zH} (L : zLay h) : ln h 3 = 144 := (L.2.2.2 3 (by decide) (by decide)).2
theorem k4 {h : zH} (L : zLay h) : kd h 4 = 101 := (L.2.2.2 4 (by decide) (by decide)).1
theorem l4 {h : zH} (L : zLay h) : ln h 4 = 144 := (L.2.2.2 4 (by decide) (by decide)).2
theorem k5 {h : zH} (L : zLay h) : kd h 5 = 120 := (L.2.2.2 5 (by decide) (by decide)).1
theorem l5 {h : zH} (L : zLay h) : ln h 5 = 6 := (L.2.2.2 5 (by decide) (by decide)).2
theorem k6 {h : zH} (L : zLay h) : kd h 6 = 101 := (L.2.2.2 6 (by decide) (by decide)).1
theorem l6 {h : zH} (L : zLay h) : ln h 6 = 6 := (L.2.2.2 6 (by decide) (by decide)).2
theorem k7 {h : zH} (L : zLay h) : kd h 7 = 101 := (L.2.2.2 7 (by decide) (by decide)).1
theorem l7 {h : zH} (L : zLay h) : ln h 7 = 12 := (L.2.2.2 7 (by decide) (by decide)).2
theorem k8 {h : zH} (L : zLay h) : kd h 8 = 101 := (L.2.2.2 8 (by decide) (by decide)).1
theorem l8 {h : zH} (L : zLay h) : ln h 8 = 64 := (L.2.2.2 8 (by decide) (by decide)).2
theorem k9 {h : zH} (L : zLay h) : kd h 9 = 8 := (L.2.2.2 9 (by decide) (by decide)).1
theorem k10 {h : zH} (L : zLay h) : kd h 10 = 102 := (L.2.2.2 10 (by decide) (by decide)).1
theorem l10 {h : zH} (L : zLay h) : ln h 10 = 2000 := (L.2.2.2 10 (by decide) (by decide)).2
theorem k11 {h : zH} (L : zLay h) : kd h 11 = 10 := (L.2.2.2 11 (by decide) (by decide)).1
theorem k12 {h : zH} (L : zLay h) : kd h 12 = 101 := (L.2.2.2 12 (by decide) (by decide)).1
theorem l12 {h : zH} (L : zLay h) : ln h 12 = 400 := (L.2.2.2 12 (by decide) (by decide)).2
theorem k13 {h : zH} (L : zLay h) : kd h 13 = 104 := (L.2.2.2 13 (by decide) (by decide)).1
theorem l13 {h : zH} (L : zLay h) : ln h 13 = 24 := (L.2.2.2 13 (by decide) (by decide)).2
theorem k14 {h : zH} (L : zLay h) : kd h 14 = 101 := (L.2.2.2 14 (by decide) (by decide)).1
theorem l14 {h : zH} (L : zLay h) : ln h 14 = 24 := (L.2.2.2 14 (by decide) (by decide)).2
theorem k15 {h : zH} (L : zLay h) : kd h 15 = 101 := (L.2.2.2 15 (by decide) (by decide)).1
theorem l15 {h : zH} (L : zLay h) : ln h 15 = 24 := (L.2.2.2 15 (by decide) (by decide)).2
theorem k16 {h : zH} (L : zLay h) : kd h 16 = 101 := (L.2.2.2 16 (by decide) (by decide)).1
theorem l16 {h : zH} (L : zLay h) : ln h 16 = 24 := (L.2.2.2 16 (by decide) (by decide)).2
theorem k17 {h : zH} (L : zLay h) : kd h 17 = 101 := (L.2.2.2 17 (by decide) (by decide)).1
theorem l17 {h : zH} (L : zLay h) : ln h 17 = 24 := (L.2.2.2 17 (by decide) (by decide)).2
theorem k18 {h : zH} (L : zLay h) : kd h 18 = 101 := (L.2.2.2 18 (by decide) (by decide)).1
theorem l18 {h : zH} (L : zLay h) : ln h 18 = 400 := (L.2.2.2 18 (by decide) (by decide)).2
theorem k19 {h : zH} (L : zLay h) : kd h 19 = 2 := (L.2.2.2 19 (by decide) (by decide)).1
theorem k20 {h : zH} (L : zLay h) : kd h 20 = 101 := (L.2.2.2 20 (by decide) (by decide)).1
theorem l20 {h : zH} (L : zLay h) : ln h 20 = 25 := (L.2.2.2 20 (by decide) (by decide)).2
theorem k21 {h : zH} (L : zLay h) : kd h 21 = 116 := (L.2.2.2 21 (by decide) (by decide)).1
theorem l21 {h : zH} (L : zLay h) : ln h 21 = 9 := (L.2.2.2 21 (by decide) (by decide)).2
theorem k22 {h : zH} (L : zLay h) : kd h 22 = 101 := (L.2.2.2 22 (by decide) (by decide)).1
theorem l22 {h : zH} (L : zLay h) : ln h 22 = 8 := (L.2.2.2 22 (by decide) (by decide)).2
theorem k23 {h : zH} (L : zLay h) : kd h 23 = 121 := (L.2.2.2 23 (by decide) (by decide)).1
theorem l23 {h : zH} (L : zLay h) : ln h 23 = 12 := (L.2.2.2 23 (by decide) (by decide)).2
theorem k24 {h : zH} (L : zLay h) : kd h 24 = 117 := (L.2.2.2 24 (by decide) (by decide)).1
theorem l24 {h : zH} (L : zLay h) : ln h 24 = 180 := (L.2.2.2 24 (by decide) (by decide)).2
theorem k25 {h : zH} (L : zLay h) : kd h 25 = 101 := (L.2.2.2 25 (by decide) (by decide)).1
theorem l25 {h : zH} (L : zLay h) : ln h 25 = 180 := (L.2.2.2 25 (by decide) (by decide)).2
theorem k26 {h : zH} (L : zLay h) : kd h 26 = 101 := (L.2.2.2 26 (by decide) (by decide)).1
theorem l26 {h : zH} (L : zLay h) : ln h 26 = 180 := (L.2.2.2 26 (by decide) (by decide)).2
theorem k27 {h : zH} (L : zLay h) : kd h 27 = 101 := (L.2.2.2 27 (by decide) (by decide)).1
theorem l27 {h : zH} (L : zLay h) : ln h 27 = 8 := (L.2.2.2 27 (by decide) (by decide)).2
theorem k28 {h : zH} (L : zLay h) : kd h 28 = 5 := (L.2.2.2 28 (by decide) (by decide)).1
theorem k29 {h : zH} (L : zLay h) : kd h 29 = 101 := (L.2.2.2 29 (by decide) (by decide)).1
theorem l29 {h : zH} (L : zLay h) : ln h 29 = 12 := (L.2.2.2 29 (by decide) (by decide)).2
theorem k30 {h : zH} (L : zLay h) : kd h 30 = 101 := (L.2.2.2 30 (by decide) (by decide)).1
theorem l30 {h : zH} (L : zLay h) : ln h 30 = 8 := (L.2.2.2 30 (by decide) (by decide)).2
theorem k31 {h : zH} (L : zLay h) : kd h 31 = 101 := (L.2.2.2 31 (by decide) (by decide)).1
theorem l31 {h : zH} (L : zLay h) : ln h 31 = 8 := (L.2.2.2 31 (by decide) (by decide)).2
theorem k32 {h : zH} (L : zLay h) : kd h 32 = 101 := (L.2.2.2 32 (by decide) (by decide)).1
theorem l32 {h : zH} (L : zLay h) : ln h 32 = 72 := (L.2.2.2 32 (by decide) (by decide)).2
theorem k33 {h : zH} (L : zLay h) : kd h 33 = 101 := (L.2.2.2 33 (by decide) (by decide)).1
theorem l33 {h : zH} (L : zLay h) : ln h 33 = 256 := (L.2.2.2 33 (by decide) (by decide)).2
theorem k34 {h : zH} (L : zLay h) : kd h 34 = 101 := (L.2.2.2 34 (by decide) (by decide)).1
theorem l34 {h : zH} (L : zLay h) : ln h 34 = 512 := (L.2.2.2 34 (by decide) (by decide)).2
theorem k35 {h : zH} (L : zLay h) : kd h 35 = 9 := (L.2.2.2 35 (by decide) (by decide)).1
theorem k36 {h : zH} (L : zLay h) : kd h 36 = 101 := (L.2.2.2 36 (by decide) (by decide)).1
theorem l36 {h : zH} (L : zLay h) : ln h 36 = 9 := (L.2.2.2 36 (by decide) (by decide)).2
theorem k37 {h : zH} (L : zLay h) : kd h 37 = 101 := (L.2.2.2 37 (by decide) (by decide)).1
theorem l37 {h : zH} (L : zLay h) : ln h 37 = 7 := (L.2.2.2 37 (by decide) (by decide)).2
theorem k38 {h : zH} (L : zLay h) : kd h 38 = 101 := (L.2.2.2 38 (by decide) (by decide)).1
theorem l38 {h : zH} (L : zLay h) : ln h 38 = 7 := (L.2.2.2 38 (by decide) (by decide)).2
theorem k39 {h : zH} (L : zLay h) : kd h 39 = 101 := (L.2.2.2 39 (by decide) (by decide)).1
theorem l39 {h : zH} (L : zLay h) : ln h 39 = 7 := (L.2.2.2 39 (by decide) (by decide)).2
theorem k40 {h : zH} (L : zLay h) : kd h 40 = 101 := (L.2.2.2 40 (by decide) (by decide)).1
theorem l40 {h : zH} (L : zLay h) : ln h 40 = 7 := (L.2.2.2 40 (by decide) (by decide)).2
theorem k41 {h : zH} (L : zLay h) : kd h 41 = 101 := (L.2.2.2 41 (by decide) (by decide)).1
theorem l41 {h : zH} (L : zLay h) : ln h 41 = 7 := (L.2.2.2 41 (by decide) (by decide)).2
theorem k42 {h : zH} (L : zLay h) : kd h 42 = 101 := (L.2.2.2 42 (by decide) (by decide)).1
theorem l42 {h : zH} (L : zLay h) : ln h 42 = 3 := (L.2.2.2 42 (by decide) (by decide)).2
theorem k43 {h : zH} (L : zLay h) : kd h 43 = 4 := (L.2.2.2 43 (by decide) (by decide)).1
theorem k44 {h : zH} (L : zLay h) : kd h 44 = 101 := (L.2.2.2 44 (by decide) (by decide)).1
theorem l44 {h : zH} (L : zLay h) : ln h 44 = 12 := (L.2.2.2 44 (by decide) (by decide)).2
theorem k45 {h : zH} (L : zLay h) : kd h 45 = 101 := (L.2.2.2 45 (by decide) (by decide)).1
theorem l45 {h : zH} (L : zLay h) : ln h 45 = 9 := (L.2.2.2 45 (by decide) (by decide)).2
theorem k46 {h : zH} (L : zLay h) : kd h 46 = 101 := (L.2.2.2 46 (by decide) (by decide)).1
theorem l46 {h : zH} (L : zLay h) : ln h 46 = 5 := (L.2.2.2 46 (by decide) (by decide)).2
theorem k47 {h : zH} (L : zLay h) : kd h 47 = 101 := (L.2.2.2 47 (by decide) (by decide)).1
theorem l47 {h : zH} (L : zLay h) : ln h 47 = 8 := (L.2.2.2 47 (by decide) (by decide)).2
theorem k48 {h : zH} (L : zLay h) : kd h 48 = 101 := (L.2.2.2 48 (by decide) (by decide)).1
theorem l48 {h : zH} (L : zLay h) : ln h 48 = 256 := (L.2.2.2 48 (by decide) (by decide)).2
theorem k49 {h : zH} (L : zLay h) : kd h 49 = 101 := (L.2.2.2 49 (by decide) (by decide)).1
theorem l49 {h : zH} (L : zLay h) : ln h 49 = 32 := (L.2.2.2 49 (by decide) (by decide)).2
theorem k50 {h : zH} (L : zLay h) : kd h 50 = 101 := (L.2.2.2 50 (by decide) (by decide)).1
theorem l50 {h : zH} (L : zLay h) : ln h 50 = 5 := (L.2.2.2 50 (by decide) (by decide)).2
theorem k51 {h : zH} (L : zLay h) : kd h 51 = 101 := (L.2.2.2 51 (by decide) (by decide)).1
theorem l51 {h : zH} (L : zLay h) : ln h 51 = 5 := (L.2.2.2 51 (by decide) (by decide)).2
theorem k52 {h : zH} (L : zLay h) : kd h 52 = 1 := (L.2.2.2 52 (by decide) (by decide)).1
theorem k53 {h : zH} (L : zLay h) : kd h 53 = 101 := (L.2.2.2 53 (by decide) (by decide)).1
theorem l53 {h : zH} (L : zLay h) : ln h 53 = 180 := (L.2.2.2 53 (by decide) (by decide)).2
theorem k54 {h : zH} (L : zLay h) : kd h 54 = 13 := (L.2.2.2 54 (by decide) (by decide)).1
theorem k55 {h : zH} (L : zLay h) : kd h 55 = 102 := (L.2.2.2 55 (by decide) (by decide)).1
theorem l55 {h : zH} (L : zLay h) : ln h 55 = 2000 := (L.2.2.2 55 (by decide) (by decide)).2
theorem k56 {h : zH} (L : zLay h) : kd h 56 = 102 := (L.2.2.2 56 (by decide) (by decide)).1
theorem l56 {h : zH} (L : zLay h) : ln h 56 = 2000 := (L.2.2.2 56 (by decide) (by decide)).2
theorem k57 {h : zH} (L : zLay h) : kd h 57 = 101 := (L.2.2.2 57 (by decide) (by decide)).1
theorem l57 {h : zH} (L : zLay h) : ln h 57 = 403 := (L.2.2.2 57 (by decide) (by decide)).2
theorem k58 {h : zH} (L : zLay h) : kd h 58 = 101 := (L.2.2.2 58 (by decide) (by decide)).1
theorem l58 {h : zH} (L : zLay h) : ln h 58 = 403 := (L.2.2.2 58 (by decide) (by decide)).2
theorem k59 {h : zH} (L : zLay h) : kd h 59 = 101 := (L.2.2.2 59 (by decide) (by decide)).1
theorem l59 {h : zH} (L : zLay h) : ln h 59 = 403 := (L.2.2.2 59 (by decide) (by decide)).2
theorem k60 {h : zH} (L : zLay h) : kd h 60 = 104 := (L.2.2.2 60 (by decide) (by decide)).1
theorem l60 {h : zH} (L : zLay h) : ln h 60 = 403 := (L.2.2.2 60 (by decide) (by decide)).2
theorem k61 {h : zH} (L : zLay h) : kd h 61 = 104 := (L.2.2.2 61 (by decide) (by decide)).1
theorem l61 {h : zH} (L : zLay h) : ln h 61 = 23 := (L.2.2.2 61 (by decide) (by decide)).2
theorem k62 {h : zH} (L : zLay h) : kd h 62 = 101 := (L.2.2.2 62 (by decide) (by decide)).1
theorem l62 {h : zH} (L : zLay h) : ln h 62 = 7 := (L.2.2.2 62 (by decide) (by decide)).2
theorem k63 {h : zH} (L : zLay h) : kd h 63 = 101 := (L.2.2.2 63 (by decide) (by decide)).1
theorem l63 {h : zH} (L : zLay h) : ln h 63 = 7 := (L.2.2.2 63 (by decide) (by decide)).2
theorem k64 {h : zH} (L : zLay h) : kd h 64 = 101 := (L.2.2.2 64 (by decide) (by decide)).1
theorem l64 {h : zH} (L : zLay h) : ln h 64 = 168 := (L.2.2.2 64 (by decide) (by decide)).2
theorem k65 {h : zH} (L : zLay h) : kd h 65 = 104 := (L.2.2.2 65 (by decide) (by decide)).1
theorem l65 {h : zH} (L : zLay h) : ln h 65 = 168 := (L.2.2.2 65 (by decide) (by decide)).2
theorem k66 {h : zH} (L : zLay h) : kd h 66 = 101 := (L.2.2.2 66 (by decide) (by decide)).1
theorem l66 {h : zH} (L : zLay h) : ln h 66 = 168 := (L.2.2.2 66 (by decide) (by decide)).2
theorem k67 {h : zH} (L : zLay h) : kd h 67 = 101 := (L.2.2.2 67 (by decide) (by decide)).1
theorem l67 {h : zH} (L : zLay h) : ln h 67 = 168 := (L.2.2.2 67 (by decide) (by decide)).2
theorem k68 {h : zH} (L : zLay h) : kd h 68 = 101 := (L.2.2.2 68 (by decide) (by decide)).1
theorem l68 {h : zH} (L : zLay h) : ln h 68 = 168 := (L.2.2.2 68 (by decide) (by decide)).2
theorem k69 {h : zH} (L : zLay h) : kd h 69 = 101 := (L.2.2.2 69 (by decide) (by decide)).1
theorem l69 {h : zH} (L : zLay h) : ln h 69 = 168 := (L.2.2.2 69 (by decide) (by decide)).2
theorem k70 {h : zH} (L : zLay h) : kd h 70 = 101 := (L.2.2.2 70 (by decide) (by decide)).1
theorem l70 {h : zH} (L : zLay h) : ln h 70 = 980 := (L.2.2.2 70 (by decide) (by decide)).2
theorem k71 {h : zH} (L : zLay h) : kd h 71 = 103 := (L.2.2.2 71 (by decide) (by decide)).1
theorem l71 {h : zH} (L : zLay h) : ln h 71 = 980 := (L.2.2.2 71 (by decide) (by decide)).2
theorem k72 {h : zH} (L : zLay h) : kd h 72 = 103 := (L.2.2.2 72 (by decide) (by decide)).1
theorem l72 {h : zH} (L : zLay h) : ln h 72 = 980 := (L.2.2.2 72 (by decide) (by decide)).2
theorem k73 {h : zH} (L : zLay h) : kd h 73 = 101 := (L.2.2.2 73 (by decide) (by decide)).1
theorem l73 {h : zH} (L : zLay h) : ln h 73 = 980 := (L.2.2.2 73 (by decide) (by decide)).2
theorem k74 {h : zH} (L : zLay h) : kd h 74 = 101 := (L.2.2.2 74 (by decide) (by decide)).1
theorem l74 {h : zH} (L : zLay h) : ln h 74 = 980 := (L.2.2.2 74 (by decide) (by decide)).2
theorem k75 {h : zH} (L : zLay h) : kd h 75 = 101 := (L.2.2.2 75 (by decide) (by decide)).1
theorem l75 {h : zH} (L : zLay h) : ln h 75 = 980 := (L.2.2.2 75 (by decide) (by decide)).2
theorem k76 {h : zH} (L : zLay h) : kd h 76 = 101 := (L.2.2.2 76 (by decide) (by decide)).1
theorem l76 {h : zH} (L : zLay h) : ln h 76 = 2800 := (L.2.2.2 76 (by decide) (by decide)).2
theorem k77 {h : zH} (L : zLay h) : kd h 77 = 101 := (L.2.2.2 77 (by decide) (by decide)).1
theorem l77 {h : zH} (L : zLay h) : ln h 77 = 2800 := (L.2.2.2 77 (by decide) (by decide)).2
theorem k78 {h : zH} (L : zLay h) : kd h 78 = 101 := (L.2.2.2 78 (by decide) (by decide)).1
theorem l78 {h : zH} (L : zLay h) : ln h 78 = 64 := (L.2.2.2 78 (by decide) (by decide)).2
theorem k79 {h : zH} (L : zLay h) : kd h 79 = 101 := (L.2.2.2 79 (by decide) (by decide)).1
theorem l79 {h : zH} (L : zLay h) : ln h 79 = 12 := (L.2.2.2 79 (by decide) (by decide)).2
theorem k80 {h : zH} (L : zLay h) : kd h 80 = 101 := (L.2.2.2 80 (by decide) (by decide)).1
theorem l80 {h : zH} (L : zLay h) : ln h 80 = 400 := (L.2.2.2 80 (by decide) (by decide)).2
theorem k81 {h : zH} (L : zLay h) : kd h 81 = 101 := (L.2.2.2 81 (by decide) (by decide)).1
theorem l81 {h : zH} (L : zLay h) : ln h 81 = 144 := (L.2.2.2 81 (by decide) (by decide)).2
theorem k82 {h : zH} (L : zLay h) : kd h 82 = 101 := (L.2.2.2 82 (by decide) (by decide)).1
theorem l82 {h : zH} (L : zLay h) : ln h 82 = 25 := (L.2.2.2 82 (by decide) (by decide)).2
theorem k83 {h : zH} (L : zLay h) : kd h 83 = 101 := (L.2.2.2 83 (by decide) (by decide)).1
theorem l83 {h : zH} (L : zLay h) : ln h 83 = 9 := (L.2.2.2 83 (by decide) (by decide)).2
theorem k84 {h : zH} (L : zLay h) : kd h 84 = 101 := (L.2.2.2 84 (by decide) (by decide)).1
theorem l84 {h : zH} (L : zLay h) : ln h 84 = 9 := (L.2.2.2 84 (by decide) (by decide)).2
theorem k85 {h : zH} (L : zLay h) : kd h 85 = 101 := (L.2.2.2 85 (by decide) (by decide)).1
theorem l85 {h : zH} (L : zLay h) : ln h 85 = 8 := (L.2.2.2 85 (by decide) (by decide)).2
theorem k86 {h : zH} (L : zLay h) : kd h 86 = 101 := (L.2.2.2 86 (by decide) (by decide)).1
theorem l86 {h : zH} (L : zLay h) : ln h 86 = 12 := (L.2.2.2 86 (by decide) (by decide)).2
theorem k87 {h : zH} (L : zLay h) : kd h 87 = 101 := (L.2.2.2 87 (by decide) (by decide)).1
theorem l87 {h : zH} (L : zLay h) : ln h 87 = 12 := (L.2.2.2 87 (by decide) (by decide)).2
theorem k88 {h : zH} (L : zLay h) : kd h 88 = 101 := (L.2.2.2 88 (by decide) (by decide)).1
theorem l88 {h : zH} (L : zLay h) : ln h 88 = 12 := (L.2.2.2 88 (by decide) (by decide)).2
theorem k89 {h : zH} (L : zLay h) : kd h 89 = 101 := (L.2.2.2 89 (by decide) (by decide)).1
theorem l89 {h : zH} (L : zLay h) : ln h 89 = 12 := (L.2.2.2 89 (by decide) (by decide)).2
theorem k90 {h : zH} (L : zLay h) : kd h 90 = 101 := (L.2.2.2 90 (by decide) (by decide)).1
theorem l90 {h : zH} (L : zLay h) : ln h 90 = 12 := (L.2.2.2 90 (by decide) (by decide)).2
theorem k91 {h : zH} (L : zLay h) : kd h 91 = 101 := (L.2.2.2 91 (by decide) (by decide)).1
theorem l91 {h : zH} (L : zLay h) : ln h 91 = 12 := (L.2.2.2 91 (by decide) (by decide)).2
theorem k92 {h : zH} (L : zLay h) : kd h 92 = 101 := (L.2.2.2 92 (by decide) (by decide)).1
theorem l92 {h : zH} (L : zLay h) : ln h 92 = 12 := (L.2.2.2 92 (by decide) (by decide)).2
theorem k93 {h : zH} (L : zLay h) : kd h 93 = 103 := (L.2.2.2 93 (by decide) (by decide)).1
theorem l93 {h : zH} (L : zLay h) : ln h 93 = 12 := (L.2.2.2 93 (by decide) (by decide)).2
theorem k94 {h : zH} (L : zLay h) : kd h 94 = 101 := (L.2.2.2 94 (by decide) (by decide)).1
theorem l94 {h : zH} (L : zLay h) : ln h 94 = 180 := (L.2.2.2 94 (by decide) (by decide)).2
theorem k95 {h : zH} (L : zLay h) : kd h 95 = 101 := (L.2.2.2 95 (by decide) (by decide)).1
theorem l95 {h : zH} (L : zLay h) : ln h 95 = 180 := (L.2.2.2 95 (by decide) (by decide)).2
theorem k96 {h : zH} (L : zLay h) : kd h 96 = 101 := (L.2.2.2 96 (by decide) (by decide)).1
theorem l96 {h : zH} (L : zLay h) : ln h 96 = 180 := (L.2.2.2 96 (by decide) (by decide)).2
theorem k97 {h : zH} (L : zLay h) : kd h 97 = 101 := (L.2.2.2 97 (by decide) (by decide)).1
theorem l97 {h : zH} (L : zLay h) : ln h 97 = 180 := (L.2.2.2 97 (by decide) (by decide)).2
theorem k98 {h : zH} (L : zLay h) : kd h 98 = 101 := (L.2.2.2 98 (by decide) (by decide)).1
theorem l98 {h : zH} (L : zLay h) : ln h 98 = 180 := (L.2.2.2 98 (by decide) (by decide)).2
theorem k99 {h : zH} (L : zLay h) : kd h 99 = 101 := (L.2.2.2 99 (by decide) (by decide)).1
theorem l99 {h : zH} (L : zLay h) : ln h 99 = 9 := (L.2.2.2 99 (by decide) (by decide)).2
theorem k100 {h : zH} (L : zLay h) : kd h 100 = 101 := (L.2.2.2 100 (by decide) (by decide)).1
theorem l100 {h : zH} (L : zLay h) : ln h 100 = 9 := (L.2.2.2 100 (by decide) (by decide)).2
theorem k101 {h : zH} (L : zLay h) : kd h 101 = 101 := (L.2.2.2 101 (by decide) (by decide)).1
theorem l101 {h : zH} (L : zLay h) : ln h 101 = 9 := (L.2.2.2 101 (by decide) (by decide)).2
theorem k102 {h : zH} (L : zLay h) : kd h 102 = 101 := (L.2.2.2 102 (by decide) (by decide)).1
theorem l102 {h : zH} (L : zLay h) : ln h 102 = 9 := (L.2.2.2 102 (by decide) (by decide)).2
theorem k103 {h : zH} (L : zLay h) : kd h 103 = 101 := (L.2.2.2 103 (by decide) (by decide)).1
theorem l103 {h : zH} (L : zLay h) : ln h 103 = 9 := (L.2.2.2 103 (by decide) (by decide)).2
theorem k104 {h : zH} (L : zLay h) : kd h 104 = 101 := (L.2.2.2 104 (by decide) (by decide)).1
theorem l104 {h : zH} (L : zLay h) : ln h 104 = 9 := (L.2.2.2 104 (by decide) (by decide)).2
theorem k105 {h : zH} (L : zLay h) : kd h 105 = 101 := (L.2.2.2 105 (by decide) (by decide)).1
theorem l105 {h : zH} (L : zLay h) : ln h 105 = 9 := (L.2.2.2 105 (by decide) (by decide)).2
theorem k106 {h : zH} (L : zLay h) : kd h 106 = 101 := (L.2.2.2 106 (by decide) (by decide)).1
theorem l106 {h : zH} (L : zLay h) : ln h 106 = 9 := (L.2.2.2 106 (by decide) (by decide)).2
theorem k107 {h : zH} (L : zLay h) : kd h 107 = 103 := (L.2.2.2 107 (by decide) (by decide)).1
theorem l107 {h : zH} (L : zLay h) : ln h 107 = 9 := (L.2.2.2 107 (by decide) (by decide)).2
theorem k108 {h : zH} (L : zLay h) : kd h 108 = 101 := (L.2.2.2 108 (by decide) (by decide)).1
theorem l108 {h : zH} (L : zLay h) : ln h 108 = 9 := (L.2.2.2 108 (by decide) (by decide)).2
theorem k109 {h : zH} (L : zLay h) : kd h 109 = 101 := (L.2.2.2 109 (by decide) (by decide)).1
theorem l109 {h : zH} (L : zLay h) : ln h 109 = 9 := (L.2.2.2 109 (by decide) (by decide)).2
theorem k110 {h : zH} (L : zLay h) : kd h 110 = 103 := (L.2.2.2 110 (by decide) (by decide)).1
theorem l110 {h : zH} (L : zLay h) : ln h 110 = 9 := (L.2.2.2 110 (by decide) (by decide)).2
theorem k111 {h : zH} (L : zLay h) : kd h 111 = 101 := (L.2.2.2 111 (by decide) (by decide)).1
theorem l111 {h : zH} (L : zLay h) : ln h 111 = 8 := (L.2.2.2 111 (by decide) (by decide)).2
theorem k112 {h : zH} (L : zLay h) : kd h 112 = 101 := (L.2.2.2 112 (by decide) (by decide)).1
theorem l112 {h : zH} (L : zLay h) : ln h 112 = 8 := (L.2.2.2 112 (by decide) (by decide)).2
theorem k113 {h : zH} (L : zLay h) : kd h 113 = 103 := (L.2.2.2 113 (by decide) (by decide)).1
theorem l113 {h : zH} (L : zLay h) : ln h 113 = 12 := (L.2.2.2 113 (by decide) (by decide)).2
theorem k114 {h : zH} (L : zLay h) : kd h 114 = 101 := (L.2.2.2 114 (by decide) (by decide)).1
theorem l114 {h : zH} (L : zLay h) : ln h 114 = 7560 := (L.2.2.2 114 (by decide) (by decide)).2
theorem k115 {h : zH} (L : zLay h) : kd h 115 = 101 := (L.2.2.2 115 (by decide) (by decide)).1
theorem l115 {h : zH} (L : zLay h) : ln h 115 = 7560 := (L.2.2.2 115 (by decide) (by decide)).2
theorem k116 {h : zH} (L : zLay h) : kd h 116 = 103 := (L.2.2.2 116 (by decide) (by decide)).1
theorem l116 {h : zH} (L : zLay h) : ln h 116 = 1080 := (L.2.2.2 116 (by decide) (by decide)).2
theorem k117 {h : zH} (L : zLay h) : kd h 117 = 101 := (L.2.2.2 117 (by decide) (by decide)).1
theorem l117 {h : zH} (L : zLay h) : ln h 117 = 180 := (L.2.2.2 117 (by decide) (by decide)).2
theorem k118 {h : zH} (L : zLay h) : kd h 118 = 101 := (L.2.2.2 118 (by decide) (by decide)).1
theorem l118 {h : zH} (L : zLay h) : ln h 118 = 180 := (L.2.2.2 118 (by decide) (by decide)).2
theorem k119 {h : zH} (L : zLay h) : kd h 119 = 101 := (L.2.2.2 119 (by decide) (by decide)).1
theorem l119 {h : zH} (L : zLay h) : ln h 119 = 180 := (L.2.2.2 119 (by decide) (by decide)).2
theorem k120 {h : zH} (L : zLay h) : kd h 120 = 101 := (L.2.2.2 120 (by decide) (by decide)).1
theorem l120 {h : zH} (L : zLay h) : ln h 120 = 180 := (L.2.2.2 120 (by decide) (by decide)).2
theorem k121 {h : zH} (L : zLay h) : kd h 121 = 101 := (L.2.2.2 121 (by decide) (by decide)).1
theorem l121 {h : zH} (L : zLay h) : ln h 121 = 180 := (L.2.2.2 121 (by decide) (by decide)).2
theorem k122 {h : zH} (L : zLay h) : kd h 122 = 103 := (L.2.2.2 122 (by decide) (by decide)).1
theorem l122 {h : zH} (L : zLay h) : ln h 122 = 180 := (L.2.2.2 122 (by decide) (by decide)).2
theorem k123 {h : zH} (L : zLay h) : kd h 123 = 101 := (L.2.2.2 123 (by decide) (by decide)).1
theorem l123 {h : zH} (L : zLay h) : ln h 123 = 180 := (L.2.2.2 123 (by decide) (by decide)).2
theorem k124 {h : zH} (L : zLay h) : kd h 124 = 103 := (L.2.2.2 124 (by decide) (by decide)).1
theorem l124 {h : zH} (L : zLay h) : ln h 124 = 180 := (L.2.2.2 124 (by decide) (by decide)).2
theorem k125 {h : zH} (L : zLay h) : kd h 125 = 101 := (L.2.2.2 125 (by decide) (by decide)).1
theorem l125 {h : zH} (L : zLay h) : ln h 125 = 180 := (L.2.2.2 125 (by decide) (by decide)).2
theorem k126 {h : zH} (L : zLay h) : kd h 126 = 101 := (L.2.2.2 126 (by decide) (by decide)).1
theorem l126 {h : zH} (L : zLay h) : ln h 126 = 180 := (L.2.2.2 126 (by decide) (by decide)).2
theorem k127 {h : zH} (L : zLay h) : kd h 127 = 101 := (L.2.2.2 127 (by decide) (by decide)).1
theorem l127 {h : zH} (L : zLay h) : ln h 127 = 108 := (L.2.2.2 127 (by decide) (by decide)).2
theorem k128 {h : zH} (L : zLay h) : kd h 128 = 101 := (L.2.2.2 128 (by decide) (by decide)).1
theorem l128 {h : zH} (L : zLay h) : ln h 128 = 8 := (L.2.2.2 128 (by decide) (by decide)).2
theorem k129 {h : zH} (L : zLay h) : kd h 129 = 101 := (L.2.2.2 129 (by decide) (by decide)).1
theorem l129 {h : zH} (L : zLay h) : ln h 129 = 4608 := (L.2.2.2 129 (by decide) (by decide)).2
theorem k130 {h : zH} (L : zLay h) : kd h 130 = 101 := (L.2.2.2 130 (by decide) (by decide)).1
theorem l130 {h : zH} (L : zLay h) : ln h 130 = 12 := (L.2.2.2 130 (by decide) (by decide)).2
theorem k131 {h : zH} (L : zLay h) : kd h 131 = 101 := (L.2.2.2 131 (by decide) (by decide)).1
theorem l131 {h : zH} (L : zLay h) : ln h 131 = 7 := (L.2.2.2 131 (by decide) (by decide)).2
theorem k132 {h : zH} (L : zLay h) : kd h 132 = 101 := (L.2.2.2 132 (by decide) (by decide)).1
theorem l132 {h : zH} (L : zLay h) : ln h 132 = 7 := (L.2.2.2 132 (by decide) (by decide)).2
theorem k133 {h : zH} (L : zLay h) : kd h 133 = 101 := (L.2.2.2 133 (by decide) (by decide)).1
theorem l133 {h : zH} (L : zLay h) : ln h 133 = 9 := (L.2.2.2 133 (by decide) (by decide)).2
theorem k134 {h : zH} (L : zLay h) : kd h 134 = 101 := (L.2.2.2 134 (by decide) (by decide)).1
theorem l134 {h : zH} (L : zLay h) : ln h 134 = 7 := (L.2.2.2 134 (by decide) (by decide)).2
theorem k135 {h : zH} (L : zLay h) : kd h 135 = 103 := (L.2.2.2 135 (by decide) (by decide)).1
theorem l135 {h : zH} (L : zLay h) : ln h 135 = 72 := (L.2.2.2 135 (by decide) (by decide)).2
theorem k136 {h : zH} (L : zLay h) : kd h 136 = 101 := (L.2.2.2 136 (by decide) (by decide)).1
theorem l136 {h : zH} (L : zLay h) : ln h 136 = 9 := (L.2.2.2 136 (by decide) (by decide)).2
theorem k137 {h : zH} (L : zLay h) : kd h 137 = 101 := (L.2.2.2 137 (by decide) (by decide)).1
theorem l137 {h : zH} (L : zLay h) : ln h 137 = 5 := (L.2.2.2 137 (by decide) (by decide)).2
theorem k138 {h : zH} (L : zLay h) : kd h 138 = 101 := (L.2.2.2 138 (by decide) (by decide)).1
theorem l138 {h : zH} (L : zLay h) : ln h 138 = 5 := (L.2.2.2 138 (by decide) (by decide)).2
theorem k139 {h : zH} (L : zLay h) : kd h 139 = 103 := (L.2.2.2 139 (by decide) (by decide)).1
theorem l139 {h : zH} (L : zLay h) : ln h 139 = 32 := (L.2.2.2 139 (by decide) (by decide)).2
theorem k140 {h : zH} (L : zLay h) : kd h 140 = 103 := (L.2.2.2 140 (by decide) (by decide)).1
theorem l140 {h : zH} (L : zLay h) : ln h 140 = 4096 := (L.2.2.2 140 (by decide) (by decide)).2
theorem k141 {h : zH} (L : zLay h) : kd h 141 = 101 := (L.2.2.2 141 (by decide) (by decide)).1
theorem l141 {h : zH} (L : zLay h) : ln h 141 = 180 := (L.2.2.2 141 (by decide) (by decide)).2
theorem k142 {h : zH} (L : zLay h) : kd h 142 = 103 := (L.2.2.2 142 (by decide) (by decide)).1
theorem l142 {h : zH} (L : zLay h) : ln h 142 = 180 := (L.2.2.2 142 (by decide) (by decide)).2
def zdA : List Bool := [false, false, false, false, false, false, false, false, false, false, false, false, false, false, false, false, false, false, false, false, false, false, false, false, false, false, false, false, false, false, false, false, false, false, false, false, false, false, false, false, false, false, false, false, false, false, false, false, false, false, false, false, false, false, false, true, false, false, false, false, false, true, true, true, true, true, true, true, true, true, true, true, true, true, true, true, true, true, false, false, false, false, true, true, true, true, true, true, true, true, true, true, true, true, true, true, true, true, true, false, false, false, false, false, false, false, false, false, false, false, false, false, false, false, false, false, false, false, false, false, false, false, false, false, false, false, false, false, false, false, true, true, true, true, false, true, true, false, false, false, false, false, false]
def zdF : List Bool := [false, false, true, false, false, false, false, false, false, false, false, false, false, false, false, false, false, true, true, false, false, false, false, false, false, false, false, false, false, false, false, false, false, false, false, false, false, false, false, false, false, false, false, false, false, true, false, true, false, false, true, false, true, false, false, false, false, false, false, false, false, true, false, false, false, false, false, false, false, false, false, false, false, false, false, false, false, false, false, false, false, false, false, false, false, false, false, false, false, false, false, false, false, false, false, false, false, false, false, false, true, true, false, false, false, true, true, false, false, false, false, false, false, false, false, false, false, false, false, false]
/-- a cell of the model that is data: no scratch and no cache -/
def zdt (i j : Int) : Bool := bif decide (i = 54) then zdF.getD j.toNat false else (bif decide (i < 54 ∨ 142 < i) then false else zdA.getD i.toNat false)
def zag (m g : zM) : Prop := ∀ i j, zdt i j = true → m i j = g i j
theorem zdt_rng {i j : Int} (q : zdt i j = true) : 54 ≤ i ∧ i ≤ 142 := by
  by_cases h : i = 54
  · omega
  · unfold zdt at q; rw [decide_eq_false h] at q
    by_cases h2 : i < 54 ∨ 142 < i
    · rw [decide_eq_true h2] at q; exact Bool.noConfusion q
    · omega
theorem zdt_ne {a i j : Int} (h : zdt a j = false) (q : zdt i j = true) : i ≠ a := by intro e; subst e; rw [h] at q; exact Bool.noConfusion q
theorem zdt_nf {a b i j : Int} (h : zdt a b = false) (q : zdt i j = true) : ¬ (i = a ∧ j = b) := by intro e; rw [e.1, e.2, h] at q; exact Bool.noConfusion q
theorem zrv_ne {a i j : Int} (h : zrv a j = 0) (q : zrv i j ≠ 0) : i ≠ a := by intro e; subst e; exact q h
theorem zrv_nf {a b i j : Int} (h : zrv a b = 0) (q : zrv i j ≠ 0) : ¬ (i = a ∧ j = b) := by intro e; rw [e.1, e.2] at q; exact q h
/-- the model keeps to its own cells -/
def zmo (m m1 : zM) : Prop := ∀ i j, (i < 54 ∨ 142 < i) → m1 i j = m i j
def zcl (m m1 : zM) : Prop := ∀ i j, (i < 0 ∨ 54 ≤ i ∧ i ≤ 142) → m1 i j = m i j
theorem zag_wr {m g : zM} {a i v : Int} (A : zag m g) : zag (zwr m a i v) (zwr g a i v) := by
  intro b j q; rw [zwr_ap, zwr_ap, A b j q]
theorem zag_nd {m g : zM} {a i v : Int} (A : zag m g) (q : zdt a i = false) : zag (zwr m a i v) g := by
  intro b j e; rw [zwr_ap]; by_cases h : b = a ∧ j = i
  · rw [h.1, h.2, q] at e; exact Bool.noConfusion e
  · rw [if_neg h]; exact A b j e
theorem zag_cl {m g : zM} {a i v : Int} (A : zag m g) (q : a < 54 ∨ 142 < a) : zag (zwr m a i v) g := by
  intro b j e; rw [zwr_ap, if_neg]; exact A b j e
  have := zdt_rng e; omega
theorem zag_fr {m m1 g : zM} (A : zag m g) (q : zcl m m1) : zag m1 g := by
  intro b j e; have := zdt_rng e; rw [q b j (by omega)]; exact A b j e
theorem zmo_rf (m : zM) : zmo m m := fun _ _ _ => rfl
theorem zmo_tr {m m1 m2 : zM} (p : zmo m m1) (q : zmo m1 m2) : zmo m m2 := fun i j z => (q i j z).trans (p i j z)
theorem zmo_wr {m m1 : zM} {a i v : Int} (p : zmo m m1) (q : 54 ≤ a ∧ a ≤ 142) : zmo m (zwr m1 a i v) := by
  intro b j z; rw [zwr_ap, if_neg (by omega)]; exact p b j z
theorem zcl_rf (m : zM) : zcl m m := fun _ _ _ => rfl
theorem zcl_tr {m m1 m2 : zM} (p : zcl m m1) (q : zcl m1 m2) : zcl m m2 := fun i j z => (q i j z).trans (p i j z)
theorem zcl_wr {m m1 : zM} {a i v : Int} (p : zcl m m1) (q : 0 ≤ a ∧ (a < 54 ∨ 142 < a)) : zcl m (zwr m1 a i v) := by
  intro b j z; rw [zwr_ap, if_neg (by omega)]; exact p b j z
theorem zI1 {p : Prop} : (True → p) ↔ p := ⟨fun q => q trivial, fun q _ => q⟩
theorem zI2 {p : Prop} : (False → p) ↔ True := ⟨fun _ => trivial, fun _ q => q.elim⟩

/-! SOUNDNESS: every step of the tables is a step of the machine. -/
section ZZ
variable {G : zG} {l : Launch} {d k pc : Nat} {L : zL} {S : List zV} {m : zM} {h : zH} {P : zQ} {D : Option (Instr × Nat)} {a n : Nat} {b : Int} {ts : List Nat}
abbrev zNx (G : zG) (l : Launch) (d k : Nat) (P : zQ) : zN := fun pc L S m h => zSnd G l d k pc L S m h P
abbrev zEx (G : zG) (l : Launch) (d k : Nat) (P : zQ) (L : zL) (S : List zV) (m : zM) (h : zH) (i : zI) : Prop := zex i (zNx G l d k P) (zcal (zSnd G l) d) P L S m h
theorem zKc {o x : Nat} {v : Int} {w : Nat} (ho : o < 20) (h : zlook (zkL o) x = some (v, w)) : Cond.constant (zon o) x (Int32.ofInt v) ∈ zwsG := by
  have h := List.all_eq_true.mp (List.all_eq_true.mp zK_ok o (List.mem_range.mpr ho)) _ (zlook_mem h)
  exact zword (by simpa [zckK] using h) rfl
theorem zKl {o x : Nat} {v : Int} {w : Nat} (ho : o < 20) (h : zlook (zk2L o) x = some (v, w)) : Cond.constantLong (zon o) x (Int64.ofInt v) ∈ zwsG := by
  have h := List.all_eq_true.mp (List.all_eq_true.mp zK2_ok o (List.mem_range.mpr ho)) _ (zlook_mem h)
  exact zword (by simpa [zckK2] using h) rfl
theorem zw_oi : Cond.instanceMethod Lib.objectInit ∈ zwsG := zword (i := 131) (by decide +kernel) rfl
theorem zw_oc : Cond.code Lib.objectInit ⟨#[0xb1]⟩ 1 none ∈ zwsG := zword (i := 132) (by decide +kernel) rfl
theorem zw_an : Cond.native arraycopyName ∈ zwsG := zword (i := 1437) (by decide +kernel) rfl
theorem zw_as : Cond.static arraycopyName ∈ zwsG := zword (i := 1436) (by decide +kernel) rfl
theorem zw_ai : Cond.initialized "java/lang/System" ∈ zwsG := zword (i := 124) (by decide +kernel) rfl
theorem zw_mi : Cond.initialized "java/lang/Math" ∈ zwsG := zword (i := 118) (by decide +kernel) rfl
theorem zw_maxs : Cond.static Lib.Math.max.name ∈ zwsG := zword (i := 691) (by decide +kernel) rfl
theorem zw_mins : Cond.static Lib.Math.min.name ∈ zwsG := zword (i := 694) (by decide +kernel) rfl
theorem zw_maxc : Cond.code Lib.Math.max.name Lib.Math.max.code 2 (some .int) ∈ zwsG := zword (i := 692) (by decide +kernel) rfl
theorem zw_minc : Cond.code Lib.Math.min.name Lib.Math.min.code 2 (some .int) ∈ zwsG := zword (i := 695) (by decide +kernel) rfl
theorem zcls_on (hk : k ≤ 283) : zon (zow k) = (zyn k).cls := by
  by_cases h0 : k = 0
  · subst h0; rfl
  · exact (zmeth (by omega) hk).2.2.2.2.1
theorem zo_0 (hG : zCtx G) (ho : zow k < 20) (hD : zdc k pc = D) (H : zEx G l d k P L S m h (0, a, b, ts, n)) (hc : zckI (zow k) k pc D (0, a, b, ts, n) = true) : zSnd G l d k pc L S m h P := by
  unfold zckI at hc
  simp only [] at hc
  replace H : zSnd G l d k n L (.inl b :: S) m h P := H
  rw [Bool.and_eq_true, decide_eq_true_eq] at hc
  obtain ⟨hr, hc⟩ := hc
  have hr : zri b := hr
  split at hc
  · simp only [Bool.and_eq_true, decide_eq_true_eq] at hc
    obtain ⟨⟨rfl, e2⟩, e3⟩ := hc
    cases Nat.eq_of_beq_eq_true e2
    exact zSnd_rule (zRule0.rule (zr_iconst hr (zdc_ok hD))) e3 H
  · simp only [Bool.and_eq_true, decide_eq_true_eq] at hc
    obtain ⟨⟨e1, e2⟩, e3⟩ := hc
    cases Nat.eq_of_beq_eq_true e2
    exact zSnd_rule (zRule0.rule (zr_bipush hr e1 (zdc_ok hD))) e3 H
  · simp only [Bool.and_eq_true, decide_eq_true_eq] at hc
    obtain ⟨⟨e1, e2⟩, e3⟩ := hc
    cases Nat.eq_of_beq_eq_true e2
    exact zSnd_rule (zRule0.rule (zr_sipush hr e1 (zdc_ok hD))) e3 H
  · simp only [Bool.and_eq_true] at hc
    obtain ⟨⟨e1, e2⟩, e3⟩ := hc
    cases Nat.eq_of_beq_eq_true e2
    split at e1
    · rename_i q
      rw [decide_eq_true_eq] at e1
      subst e1
      exact zSnd_rule (zRule0.rule (zr_ldc hr (zKc ho q) (zdc_ok hD))) e3 H
    · cases e1
  · simp only [Bool.and_eq_true] at hc
    obtain ⟨⟨e1, e2⟩, e3⟩ := hc
    cases Nat.eq_of_beq_eq_true e2
    split at e1
    · rename_i q
      rw [decide_eq_true_eq] at e1
      subst e1
      exact zSnd_rule (zRule0.rule (zr_ldcw hr (zKc ho q) (zdc_ok hD))) e3 H
    · cases e1
  · simp only [Bool.and_eq_true] at hc
    obtain ⟨⟨e1, e2⟩, e3⟩ := hc
    cases Nat.eq_of_beq_eq_true e2
    split at e1
    · rename_i q
      rw [decide_eq_true_eq] at e1
      subst e1
      exact zSnd_rule (zRule0.rule (zr_gets hG ho q (Or.inr ⟨rfl, rfl⟩) (zdc_ok hD))) e3 H
    · cases e1
  · cases hc
theorem zo_1 (hG : zCtx G) (ho : zow k < 20) (hD : zdc k pc = D) (H : zEx G l d k P L S m h (1, a, b, ts, n)) (hc : zckI (zow k) k pc D (1, a, b, ts, n) = true) : zSnd G l d k pc L S m h P := by
  unfold zckI at hc
  simp only [] at hc
  replace H : ze_load 0 a n (zNx G l d k P) L S m h := H
  unfold ze_load at H
  simp only [] at H
  rw [Bool.and_eq_true] at hc
  obtain ⟨-, hc⟩ := hc
  split at H
  · rename_i hg
    split at hc
    · simp only [Bool.and_eq_true] at hc
      obtain ⟨⟨e1, e2⟩, e3⟩ := hc
      cases Nat.eq_of_beq_eq_true e1
      cases Nat.eq_of_beq_eq_true e2
      exact zSnd_rule (zRule0.rule (zr_iload hg (zdc_ok hD))) e3 H
    · simp only [Bool.and_eq_true] at hc
      obtain ⟨⟨e1, e2⟩, e3⟩ := hc
      cases Nat.eq_of_beq_eq_true e2
      exact zSnd_rule (zRule0.rule (zr_iload_n hg (Nat.eq_of_beq_eq_true e1) (zdc_ok hD))) e3 H
    · cases hc
  · exact H.elim
theorem zo_2 (hG : zCtx G) (ho : zow k < 20) (hD : zdc k pc = D) (H : zEx G l d k P L S m h (2, a, b, ts, n)) (hc : zckI (zow k) k pc D (2, a, b, ts, n) = true) : zSnd G l d k pc L S m h P := by
  unfold zckI at hc
  simp only [] at hc
  replace H : ze_load 2 a n (zNx G l d k P) L S m h := H
  unfold ze_load at H
  simp only [] at H
  rw [Bool.and_eq_true] at hc
  obtain ⟨-, hc⟩ := hc
  split at H
  · rename_i hg
    split at hc
    · simp only [Bool.and_eq_true] at hc
      obtain ⟨⟨e1, e2⟩, e3⟩ := hc
      cases Nat.eq_of_beq_eq_true e1
      cases Nat.eq_of_beq_eq_true e2
      exact zSnd_rule (zRule0.rule (zr_aload hg (zdc_ok hD))) e3 H
    · simp only [Bool.and_eq_true] at hc
      obtain ⟨⟨e1, e2⟩, e3⟩ := hc
      cases Nat.eq_of_beq_eq_true e2
      exact zSnd_rule (zRule0.rule (zr_aload_n hg (Nat.eq_of_beq_eq_true e1) (zdc_ok hD))) e3 H
    · cases hc
  · exact H.elim
theorem zo_3 (hG : zCtx G) (ho : zow k < 20) (hD : zdc k pc = D) (H : zEx G l d k P L S m h (3, a, b, ts, n)) (hc : zckI (zow k) k pc D (3, a, b, ts, n) = true) : zSnd G l d k pc L S m h P := by
  unfold zckI at hc
  simp only [] at hc
  replace H : ze_load 1 a n (zNx G l d k P) L S m h := H
  unfold ze_load at H
  simp only [] at H
  rw [Bool.and_eq_true] at hc
  obtain ⟨-, hc⟩ := hc
  split at H
  · rename_i hg
    split at hc
    · simp only [Bool.and_eq_true] at hc
      obtain ⟨⟨e1, e2⟩, e3⟩ := hc
      cases Nat.eq_of_beq_eq_true e1
      cases Nat.eq_of_beq_eq_true e2
      exact zSnd_rule (zRule0.rule (zr_lload hg (zdc_ok hD))) e3 H
    · simp only [Bool.and_eq_true] at hc
      obtain ⟨⟨e1, e2⟩, e3⟩ := hc
      cases Nat.eq_of_beq_eq_true e2
      exact zSnd_rule (zRule0.rule (zr_lload_n hg (Nat.eq_of_beq_eq_true e1) (zdc_ok hD))) e3 H
    · cases hc
  · exact H.elim
theorem zo_4 (hG : zCtx G) (ho : zow k < 20) (hD : zdc k pc = D) (H : zEx G l d k P L S m h (4, a, b, ts, n)) (hc : zckI (zow k) k pc D (4, a, b, ts, n) = true) : zSnd G l d k pc L S m h P := by
  unfold zckI at hc
  simp only [] at hc
  replace H : ze_store 0 a n (zNx G l d k P) L S m h := H
  unfold ze_store at H
  simp only [zstk_eq] at H
  rw [Bool.and_eq_true] at hc
  obtain ⟨ha, hc⟩ := hc
  have ha : a < zmaxl k := Nat.le_of_ble_eq_true ha
  split at H
  · split at hc
    · simp only [Bool.and_eq_true] at hc
      obtain ⟨⟨e1, e2⟩, e3⟩ := hc
      cases Nat.eq_of_beq_eq_true e1
      cases Nat.eq_of_beq_eq_true e2
      exact zSnd_rule (zRule0.rule (zr_istore ha (zdc_ok hD))) e3 H
    · simp only [Bool.and_eq_true] at hc
      obtain ⟨⟨e1, e2⟩, e3⟩ := hc
      cases Nat.eq_of_beq_eq_true e2
      exact zSnd_rule (zRule0.rule (zr_istore_n ha (Nat.eq_of_beq_eq_true e1) (zdc_ok hD))) e3 H
    · cases hc
  · exact H.elim
theorem zo_5 (hG : zCtx G) (ho : zow k < 20) (hD : zdc k pc = D) (H : zEx G l d k P L S m h (5, a, b, ts, n)) (hc : zckI (zow k) k pc D (5, a, b, ts, n) = true) : zSnd G l d k pc L S m h P := by
  unfold zckI at hc
  simp only [] at hc
  replace H : ze_store 2 a n (zNx G l d k P) L S m h := H
  unfold ze_store at H
  simp only [zstk_eq] at H
  rw [Bool.and_eq_true] at hc
  obtain ⟨ha, hc⟩ := hc
  have ha : a < zmaxl k := Nat.le_of_ble_eq_true ha
  split at H
  · split at hc
    · simp only [Bool.and_eq_true] at hc
      obtain ⟨⟨e1, e2⟩, e3⟩ := hc
      cases Nat.eq_of_beq_eq_true e1
      cases Nat.eq_of_beq_eq_true e2
      exact zSnd_rule (zRule0.rule (zr_astore ha (zdc_ok hD))) e3 H
    · simp only [Bool.and_eq_true] at hc
      obtain ⟨⟨e1, e2⟩, e3⟩ := hc
      cases Nat.eq_of_beq_eq_true e2
      exact zSnd_rule (zRule0.rule (zr_astore_n ha (Nat.eq_of_beq_eq_true e1) (zdc_ok hD))) e3 H
    · cases hc
  · exact H.elim
theorem zo_6 (hG : zCtx G) (ho : zow k < 20) (hD : zdc k pc = D) (H : zEx G l d k P L S m h (6, a, b, ts, n)) (hc : zckI (zow k) k pc D (6, a, b, ts, n) = true) : zSnd G l d k pc L S m h P := by
  unfold zckI at hc
  simp only [] at hc
  replace H : ze_store 1 a n (zNx G l d k P) L S m h := H
  unfold ze_store at H
  simp only [zstk_eq] at H
  rw [Bool.and_eq_true] at hc
  obtain ⟨ha, hc⟩ := hc
  have ha : a + 1 < zmaxl k := Nat.le_of_ble_eq_true ha
  split at H
  · split at hc
    · simp only [Bool.and_eq_true] at hc
      obtain ⟨⟨e1, e2⟩, e3⟩ := hc
      cases Nat.eq_of_beq_eq_true e1
      cases Nat.eq_of_beq_eq_true e2
      exact zSnd_rule (zRule0.rule (zr_lstore ha (zdc_ok hD))) e3 H
    · simp only [Bool.and_eq_true] at hc
      obtain ⟨⟨e1, e2⟩, e3⟩ := hc
      cases Nat.eq_of_beq_eq_true e2
      exact zSnd_rule (zRule0.rule (zr_lstore_n ha (Nat.eq_of_beq_eq_true e1) (zdc_ok hD))) e3 H
    · cases hc
  · exact H.elim
theorem zo_7 (hG : zCtx G) (ho : zow k < 20) (hD : zdc k pc = D) (H : zEx G l d k P L S m h (7, a, b, ts, n)) (hc : zckI (zow k) k pc D (7, a, b, ts, n) = true) : zSnd G l d k pc L S m h P := by
  unfold zckI at hc
  simp only [] at hc
  replace H : ze_inc a b n (zNx G l d k P) L S m h := H
  unfold ze_inc at H
  simp only [zstk_eq] at H
  simp only [Bool.and_eq_true, decide_eq_true_eq] at hc
  obtain ⟨⟨⟨e0, e1⟩, e2⟩, e3⟩ := hc
  cases Nat.eq_of_beq_eq_true e2
  split at H
  · rename_i hg
    exact zSnd_rule (zRule0.rule (zr_iinc hg (Nat.le_of_ble_eq_true e0) (zdc_ok (hD.trans e1)))) e3 H
  · exact H.elim
theorem zo_8 (hG : zCtx G) (ho : zow k < 20) (hD : zdc k pc = D) (H : zEx G l d k P L S m h (8, a, b, ts, n)) (hc : zckI (zow k) k pc D (8, a, b, ts, n) = true) : zSnd G l d k pc L S m h P := by
  unfold zckI at hc
  simp only [] at hc
  replace H : ze_bin a n (zNx G l d k P) L S m h := H
  unfold ze_bin at H
  simp only [Bool.and_eq_true, decide_eq_true_eq] at hc
  obtain ⟨⟨e1, e2⟩, e3⟩ := hc
  cases Nat.eq_of_beq_eq_true e2
  split at H
  · match a, e1, H with
    | 0, e1, H => exact zSnd_rule (zRule0.rule (zr_iadd (zdc_ok (hD.trans e1)))) e3 H
    | 1, e1, H => exact zSnd_rule (zRule0.rule (zr_isub (zdc_ok (hD.trans e1)))) e3 H
    | 2, e1, H => exact zSnd_rule (zRule0.rule (zr_imul (zdc_ok (hD.trans e1)))) e3 H
    | 3, e1, H => exact zSnd_rule (zRule0.rule (zr_iand (zdc_ok (hD.trans e1)))) e3 H
    | 4, e1, H => exact zSnd_rule (zRule0.rule (zr_ior (zdc_ok (hD.trans e1)))) e3 H
    | 5, e1, H => exact zSnd_rule (zRule0.rule (zr_ixor (zdc_ok (hD.trans e1)))) e3 H
    | 6, e1, H => exact zSnd_rule (zRule0.rule (zr_ishl (zdc_ok (hD.trans e1)))) e3 H
    | 7, e1, H => exact zSnd_rule (zRule0.rule (zr_ishr (zdc_ok (hD.trans e1)))) e3 H
    | _ + 8, e1, H => exact zSnd_rule (zRule0.rule (zr_iushr (zdc_ok (hD.trans e1)))) e3 H
  · exact H.elim
theorem zo_9 (hG : zCtx G) (ho : zow k < 20) (hD : zdc k pc = D) (H : zEx G l d k P L S m h (9, a, b, ts, n)) (hc : zckI (zow k) k pc D (9, a, b, ts, n) = true) : zSnd G l d k pc L S m h P := by
  unfold zckI at hc
  simp only [] at hc
  replace H : ze_div 0 n (zNx G l d k P) L S m h := H
  unfold ze_div at H
  simp only [Bool.and_eq_true, decide_eq_true_eq] at hc
  obtain ⟨⟨e1, e2⟩, e3⟩ := hc
  cases Nat.eq_of_beq_eq_true e2
  split at H
  · exact zSnd_rule (zRule0.rule (zr_idiv H.1 (zdc_ok (hD.trans e1)))) e3 H.2
  · exact H.elim
theorem zo_10 (hG : zCtx G) (ho : zow k < 20) (hD : zdc k pc = D) (H : zEx G l d k P L S m h (10, a, b, ts, n)) (hc : zckI (zow k) k pc D (10, a, b, ts, n) = true) : zSnd G l d k pc L S m h P := by
  unfold zckI at hc
  simp only [] at hc
  replace H : ze_div 1 n (zNx G l d k P) L S m h := H
  unfold ze_div at H
  simp only [Bool.and_eq_true, decide_eq_true_eq] at hc
  obtain ⟨⟨e1, e2⟩, e3⟩ := hc
  cases Nat.eq_of_beq_eq_true e2
  split at H
  · exact zSnd_rule (zRule0.rule (zr_irem H.1 (zdc_ok (hD.trans e1)))) e3 H.2
  · exact H.elim
theorem zo_11 (hG : zCtx G) (ho : zow k < 20) (hD : zdc k pc = D) (H : zEx G l d k P L S m h (11, a, b, ts, n)) (hc : zckI (zow k) k pc D (11, a, b, ts, n) = true) : zSnd G l d k pc L S m h P := by
  unfold zckI at hc
  simp only [] at hc
  replace H : ze_un (fun x => w32 (-x)) n (zNx G l d k P) L S m h := H
  unfold ze_un at H
  simp only [Bool.and_eq_true, decide_eq_true_eq] at hc
  obtain ⟨⟨e1, e2⟩, e3⟩ := hc
  cases Nat.eq_of_beq_eq_true e2
  split at H
  · exact zSnd_rule (zRule0.rule (zr_ineg (zdc_ok (hD.trans e1)))) e3 H
  · exact H.elim
theorem zo_12 (hG : zCtx G) (ho : zow k < 20) (hD : zdc k pc = D) (H : zEx G l d k P L S m h (12, a, b, ts, n)) (hc : zckI (zow k) k pc D (12, a, b, ts, n) = true) : zSnd G l d k pc L S m h P := by
  unfold zckI at hc
  simp only [] at hc
  simp only [Bool.and_eq_true] at hc
  obtain ⟨⟨e1, e2⟩, e3⟩ := hc
  cases Nat.eq_of_beq_eq_true e2
  match a, e1, H with
  | 0, e1, H =>
    replace H : ze_un w8 (pc + 1) (zNx G l d k P) L S m h := H
    unfold ze_un at H
    split at H
    · exact zSnd_rule (zRule0.rule (zr_i2b (zdc_ok (hD.trans (of_decide_eq_true e1))))) e3 H
    · exact H.elim
  | a + 1, e1, H =>
    replace H : ze_un w16 (pc + 1) (zNx G l d k P) L S m h := H
    unfold ze_un at H
    split at H
    · exact zSnd_rule (zRule0.rule (zr_i2c (zdc_ok (hD.trans (of_decide_eq_true e1))))) e3 H
    · exact H.elim
theorem zo_13 (hG : zCtx G) (ho : zow k < 20) (hD : zdc k pc = D) (H : zEx G l d k P L S m h (13, a, b, ts, n)) (hc : zckI (zow k) k pc D (13, a, b, ts, n) = true) : zSnd G l d k pc L S m h P := by
  unfold zckI at hc
  simp only [] at hc
  replace H : ze_i2l n (zNx G l d k P) L S m h := H
  unfold ze_i2l at H
  simp only [Bool.and_eq_true, decide_eq_true_eq] at hc
  obtain ⟨⟨e1, e2⟩, e3⟩ := hc
  cases Nat.eq_of_beq_eq_true e2
  split at H
  · exact zSnd_rule (zRule0.rule (zr_i2l (zdc_ok (hD.trans e1)))) e3 H
  · exact H.elim
theorem zo_14 (hG : zCtx G) (ho : zow k < 20) (hD : zdc k pc = D) (H : zEx G l d k P L S m h (14, a, b, ts, n)) (hc : zckI (zow k) k pc D (14, a, b, ts, n) = true) : zSnd G l d k pc L S m h P := by
  unfold zckI at hc
  simp only [] at hc
  simp only [Bool.and_eq_true] at hc
  obtain ⟨⟨e1, e2⟩, e3⟩ := hc
  cases Nat.eq_of_beq_eq_true e2
  replace H : ze_lbin a (pc + 1) (zNx G l d k P) L S m h := H
  unfold ze_lbin at H
  split at H
  · match a, e1, H with
    | 0, e1, H => exact zSnd_rule (zRule0.rule (zr_ladd (zdc_ok (hD.trans (of_decide_eq_true e1))))) e3 H
    | a + 1, e1, H => exact zSnd_rule (zRule0.rule (zr_lmul (zdc_ok (hD.trans (of_decide_eq_true e1))))) e3 H
  · exact H.elim
theorem zo_15 (hG : zCtx G) (ho : zow k < 20) (hD : zdc k pc = D) (H : zEx G l d k P L S m h (15, a, b, ts, n)) (hc : zckI (zow k) k pc D (15, a, b, ts, n) = true) : zSnd G l d k pc L S m h P := by
  unfold zckI at hc
  simp only [] at hc
  replace H : ze_lcmp n (zNx G l d k P) L S m h := H
  unfold ze_lcmp at H
  simp only [Bool.and_eq_true, decide_eq_true_eq] at hc
  obtain ⟨⟨e1, e2⟩, e3⟩ := hc
  cases Nat.eq_of_beq_eq_true e2
  split at H
  · exact zSnd_rule (zRule0.rule (zr_lcmp (zdc_ok (hD.trans e1)))) e3 H
  · exact H.elim
theorem zo_16 (hG : zCtx G) (ho : zow k < 20) (hD : zdc k pc = D) (H : zEx G l d k P L S m h (16, a, b, ts, n)) (hc : zckI (zow k) k pc D (16, a, b, ts, n) = true) : zSnd G l d k pc L S m h P := by
  unfold zckI at hc
  simp only [] at hc
  replace H : zSnd G l d k n L (.inr (.inl b) :: S) m h P := H
  rw [Bool.and_eq_true, decide_eq_true_eq] at hc
  obtain ⟨hr, hc⟩ := hc
  have hr : Z_zrl b := hr
  split at hc
  · simp only [Bool.and_eq_true, decide_eq_true_eq] at hc
    obtain ⟨⟨e1, e2⟩, e3⟩ := hc
    cases Nat.eq_of_beq_eq_true e2
    exact zSnd_rule (zRule0.rule (zr_lconst hr e1 (zdc_ok hD))) e3 H
  · simp only [Bool.and_eq_true] at hc
    obtain ⟨⟨e1, e2⟩, e3⟩ := hc
    cases Nat.eq_of_beq_eq_true e2
    split at e1
    · rename_i q
      rw [decide_eq_true_eq] at e1
      subst e1
      exact zSnd_rule (zRule0.rule (zr_ldc2 hr (zKl ho q) (zdc_ok hD))) e3 H
    · cases e1
  · cases hc
theorem zo_17 (hG : zCtx G) (ho : zow k < 20) (hD : zdc k pc = D) (H : zEx G l d k P L S m h (17, a, b, ts, n)) (hc : zckI (zow k) k pc D (17, a, b, ts, n) = true) : zSnd G l d k pc L S m h P := by
  unfold zckI at hc
  simp only [] at hc
  replace H : ze_if a (zt1 ts) n (zNx G l d k P) L S m h := H
  unfold ze_if at H
  split at hc
  · simp only [Bool.and_eq_true, decide_eq_true_eq] at hc
    obtain ⟨⟨⟨⟨rfl, e1⟩, e2⟩, e3⟩, e4⟩ := hc
    have e1 := of_decide_eq_true e1
    cases Nat.eq_of_beq_eq_true e3
    split at H
    · rename_i x _
      by_cases q : zcmp a x 0
      · exact zSnd_rule (zRule0.rule ((zr_if (zdc_ok hD) e1).1 q)) e2 (H.1 q)
      · exact zSnd_rule (zRule0.rule ((zr_if (zdc_ok hD) e1).2 q)) e4 (H.2 q)
    · exact H.elim
  · cases hc
theorem zo_18 (hG : zCtx G) (ho : zow k < 20) (hD : zdc k pc = D) (H : zEx G l d k P L S m h (18, a, b, ts, n)) (hc : zckI (zow k) k pc D (18, a, b, ts, n) = true) : zSnd G l d k pc L S m h P := by
  unfold zckI at hc
  simp only [] at hc
  replace H : ze_icmp a (zt1 ts) n (zNx G l d k P) L S m h := H
  unfold ze_icmp at H
  split at hc
  · simp only [Bool.and_eq_true, decide_eq_true_eq] at hc
    obtain ⟨⟨⟨⟨rfl, e1⟩, e2⟩, e3⟩, e4⟩ := hc
    have e1 := of_decide_eq_true e1
    cases Nat.eq_of_beq_eq_true e3
    split at H
    · rename_i y x _
      by_cases q : zcmp a x y
      · exact zSnd_rule (zRule0.rule ((zr_icmp (zdc_ok hD) e1).1 q)) e2 (H.1 q)
      · exact zSnd_rule (zRule0.rule ((zr_icmp (zdc_ok hD) e1).2 q)) e4 (H.2 q)
    · exact H.elim
  · cases hc
theorem zo_19 (hG : zCtx G) (ho : zow k < 20) (hD : zdc k pc = D) (H : zEx G l d k P L S m h (19, a, b, ts, n)) (hc : zckI (zow k) k pc D (19, a, b, ts, n) = true) : zSnd G l d k pc L S m h P := by
  unfold zckI at hc
  simp only [] at hc
  replace H : ze_null (zt1 ts) n (zNx G l d k P) L S m h := H
  unfold ze_null at H
  split at hc
  · simp only [Bool.and_eq_true] at hc
    obtain ⟨⟨⟨e1, e2⟩, e3⟩, e4⟩ := hc
    have e1 := of_decide_eq_true e1
    cases Nat.eq_of_beq_eq_true e3
    split at H
    · rename_i x _
      by_cases q : x = 0
      · exact zSnd_rule (zRule0.rule ((zr_ifnull (zdc_ok hD) e1).1 q)) e2 (H.1 q)
      · exact zSnd_rule (zRule0.rule ((zr_ifnull (zdc_ok hD) e1).2 q)) e4 (H.2 q)
    · exact H.elim
  · cases hc
theorem zo_20 (hG : zCtx G) (ho : zow k < 20) (hD : zdc k pc = D) (H : zEx G l d k P L S m h (20, a, b, ts, n)) (hc : zckI (zow k) k pc D (20, a, b, ts, n) = true) : zSnd G l d k pc L S m h P := by
  unfold zckI at hc
  simp only [] at hc
  replace H : ze_null n (zt1 ts) (zNx G l d k P) L S m h := H
  unfold ze_null at H
  split at hc
  · simp only [Bool.and_eq_true] at hc
    obtain ⟨⟨⟨e1, e2⟩, e3⟩, e4⟩ := hc
    have e1 := of_decide_eq_true e1
    cases Nat.eq_of_beq_eq_true e3
    split at H
    · rename_i x _
      by_cases q : x = 0
      · exact zSnd_rule (zRule0.rule ((zr_ifnonnull (zdc_ok hD) e1).1 q)) e4 (H.1 q)
      · exact zSnd_rule (zRule0.rule ((zr_ifnonnull (zdc_ok hD) e1).2 q)) e2 (H.2 q)
    · exact H.elim
  · cases hc
theorem zo_21 (hG : zCtx G) (ho : zow k < 20) (hD : zdc k pc = D) (H : zEx G l d k P L S m h (21, a, b, ts, n)) (hc : zckI (zow k) k pc D (21, a, b, ts, n) = true) : zSnd G l d k pc L S m h P := by
  unfold zckI at hc
  simp only [] at hc
  replace H : zSnd G l d k (zt1 ts) L S m h P := H
  split at hc
  · simp only [Bool.and_eq_true] at hc
    obtain ⟨e1, e2⟩ := hc
    exact zSnd_rule (zRule0.rule (zr_goto (zdc_ok hD) (of_decide_eq_true e1))) e2 H
  · cases hc
theorem zo_23 (hG : zCtx G) (ho : zow k < 20) (hD : zdc k pc = D) (H : zEx G l d k P L S m h (23, a, b, ts, n)) (hc : zckI (zow k) k pc D (23, a, b, ts, n) = true) : zSnd G l d k pc L S m h P := by
  unfold zckI at hc
  simp only [] at hc
  replace H : ze_getf a ts n (zNx G l d k P) L S m h := H
  unfold ze_getf at H
  split at hc
  · simp only [Bool.and_eq_true] at hc
    obtain ⟨⟨e1, e2⟩, e3⟩ := hc
    cases Nat.eq_of_beq_eq_true e2
    split at e1
    · rename_i c f g w q
      simp only [Bool.and_eq_true, decide_eq_true_eq] at e1
      obtain ⟨g1, rfl⟩ := e1
      cases Nat.eq_of_beq_eq_true g1
      split at H
      · rename_i q2
        cases q2
        refine zSnd_rule (zRule0.rule (zr_getf hG ho q H.1 (zdc_ok hD))) e3 ?_
        have H2 := H.2
        unfold zfv
        revert H2
        generalize ztt (zcy a f) = t
        intro H2
        match t, H2 with
        | 0, H2 => exact H2
        | 1, H2 => exact H2
        | 2, H2 => exact H2
        | t + 3, H2 => exact H2
      · exact H.elim
    · cases e1
  · cases hc
theorem zo_24 (hk : k ≤ 283) (hG : zCtx G) (ho : zow k < 20) (hD : zdc k pc = D) (H : zEx G l d k P L S m h (24, a, b, ts, n)) (hc : zckI (zow k) k pc D (24, a, b, ts, n) = true) : zSnd G l d k pc L S m h P := by
  unfold zckI at hc
  simp only [] at hc
  replace H : ze_putf a ts n (zNx G l d k P) L S m h := H
  split at hc
  · simp only [Bool.and_eq_true] at hc
    obtain ⟨⟨e1, e2⟩, e3⟩ := hc
    cases Nat.eq_of_beq_eq_true e2
    split at e1
    · rename_i c f g w q
      simp only [Bool.and_eq_true, decide_eq_true_eq] at e1
      obtain ⟨⟨⟨g1, rfl⟩, g2⟩, g3⟩ := e1
      cases Nat.eq_of_beq_eq_true g1
      cases Nat.eq_of_beq_eq_true g2
      have hfin : (zcT a f).2.2.2 = true → (zyn k).name = "<init>" ∧ zon (zow k) = (zcT a f).1 := fun hq => by
        rw [hq] at g3
        simp only [cond_true, Bool.and_eq_true, decide_eq_true_eq] at g3
        exact ⟨g3.1, by rw [zcls_on hk]; exact g3.2⟩
      have key := fun (S : List zV) (b v : Int) => zr_putf (l := l) (L := L) (m := m) (h := h) (S := S) (pc := pc) hG ho q (b := b) (v := v)
      unfold zfv at key
      revert H key
      generalize htt : ztt (zcy a f) = t
      intro H key
      match t, H, key with
      | 0, H, key =>
        unfold ze_putf at H
        simp only [] at H
        split at H
        · exact zSnd_rule (key _ _ _ H.1 H.2.1 (fun q => by cases q) hfin (zdc_ok hD)) e3 (H.2.2 _ rfl)
        · exact H.elim
      | 1, H, key =>
        unfold ze_putf at H
        simp only [] at H
        split at H
        · exact zSnd_rule (key _ _ _ H.1 H.2.1 (fun q => by cases q) hfin (zdc_ok hD)) e3 (H.2.2 _ rfl)
        · exact H.elim
      | 2, H, key =>
        unfold ze_putf at H
        simp only [] at H
        split at H
        · exact zSnd_rule (key _ _ _ H.1 H.2.1 (fun q => by cases q) hfin (zdc_ok hD)) e3 (H.2.2 _ rfl)
        · exact H.elim
      | 3, H, key =>
        unfold ze_putf at H
        simp only [] at H
        split at H
        · exact zSnd_rule (key _ _ _ H.2.1 H.2.2.1 (fun _ => H.1) hfin (zdc_ok hD)) e3 (H.2.2.2 _ rfl)
        · exact H.elim
      | t + 4, H, key =>
        unfold ze_putf at H
        exact H.elim
    · cases e1
  · cases hc
theorem zo_25 (hG : zCtx G) (ho : zow k < 20) (hD : zdc k pc = D) (H : zEx G l d k P L S m h (25, a, b, ts, n)) (hc : zckI (zow k) k pc D (25, a, b, ts, n) = true) : zSnd G l d k pc L S m h P := by
  unfold zckI at hc
  simp only [] at hc
  replace H : ze_new a ts n (zNx G l d k P) L S m h := H
  unfold ze_new at H
  split at hc
  · simp only [Bool.and_eq_true] at hc
    obtain ⟨⟨e1, e2⟩, e3⟩ := hc
    cases Nat.eq_of_beq_eq_true e2
    split at e1
    · rename_i c w q
      simp only [Bool.and_eq_true, decide_eq_true_eq] at e1
      obtain ⟨g1, rfl⟩ := e1
      cases Nat.eq_of_beq_eq_true g1
      exact zSnd_rule (zr_new hG ho q (zdc_ok hD)) e3 (H _ _ rfl rfl)
    · cases e1
  · cases hc
theorem zo_26 (hG : zCtx G) (ho : zow k < 20) (hD : zdc k pc = D) (H : zEx G l d k P L S m h (26, a, b, ts, n)) (hc : zckI (zow k) k pc D (26, a, b, ts, n) = true) : zSnd G l d k pc L S m h P := by
  unfold zckI at hc
  simp only [] at hc
  replace H : ze_newa a n (zNx G l d k P) L S m h := H
  unfold ze_newa at H
  split at hc
  · simp only [Bool.and_eq_true, decide_eq_true_eq] at hc
    obtain ⟨⟨⟨⟨g1, g2⟩, g3⟩, e2⟩, e3⟩ := hc
    cases Nat.eq_of_beq_eq_true e2
    split at H
    · exact zSnd_rule (zr_newa (Nat.le_of_ble_eq_true g1) (Nat.le_of_ble_eq_true g2) g3 H.1 H.2.1 (zdc_ok hD)) e3 (H.2.2 _ _ rfl rfl)
    · exact H.elim
  · simp only [Bool.and_eq_true] at hc
    obtain ⟨⟨e1, e2⟩, e3⟩ := hc
    cases Nat.eq_of_beq_eq_true e2
    split at e1
    · rename_i c w q
      rw [Bool.and_eq_true] at e1
      obtain ⟨g1, g2⟩ := e1
      cases Nat.eq_of_beq_eq_true g1
      split at H
      · exact zSnd_rule (zr_newq hG ho q (by cases hz : Nat.beq (zcw c).2.2 0 with | true => rw [hz] at g2; cases g2 | false => rfl) H.1 H.2.1 (zdc_ok hD)) e3 (H.2.2 _ _ rfl rfl)
      · exact H.elim
    · cases e1
  · cases hc
theorem zo_27 (hG : zCtx G) (ho : zow k < 20) (hD : zdc k pc = D) (H : zEx G l d k P L S m h (27, a, b, ts, n)) (hc : zckI (zow k) k pc D (27, a, b, ts, n) = true) : zSnd G l d k pc L S m h P := by
  unfold zckI at hc
  simp only [] at hc
  simp only [Bool.and_eq_true] at hc
  obtain ⟨⟨e1, e2⟩, e3⟩ := hc
  cases Nat.eq_of_beq_eq_true e2
  have nz : ∀ {b : Int} {c : Nat}, kd h b = (c + 1 : Nat) → kd h 0 = 0 → b ≠ 0 := fun {b c} q1 q2 e => by rw [e, q2] at q1; omega
  split at e1
  · replace H : ze_ald 101 0 (pc + 1) (zNx G l d k P) L S m h := H
    unfold ze_ald at H
    split at H
    · exact zSnd_rule (zRule0.rule (zr_ald (c := 101) H.1 (nz H.1) H.2.1 H.2.2.1 (by omega) (zdc_ok (hD.trans (of_decide_eq_true e1))))) e3 H.2.2.2
    · exact H.elim
  · replace H : ze_ald 102 0 (pc + 1) (zNx G l d k P) L S m h := H
    unfold ze_ald at H
    split at H
    · exact zSnd_rule (zRule0.rule (zr_ald (c := 102) H.1 (nz H.1) H.2.1 H.2.2.1 (by omega) (zdc_ok (hD.trans (of_decide_eq_true e1))))) e3 H.2.2.2
    · exact H.elim
  · replace H : ze_ald 103 0 (pc + 1) (zNx G l d k P) L S m h := H
    unfold ze_ald at H
    split at H
    · exact zSnd_rule (zRule0.rule (zr_ald (c := 103) H.1 (nz H.1) H.2.1 H.2.2.1 (by omega) (zdc_ok (hD.trans (of_decide_eq_true e1))))) e3 H.2.2.2
    · exact H.elim
  · replace H : ze_ald 104 1 (pc + 1) (zNx G l d k P) L S m h := H
    unfold ze_ald at H
    split at H
    · exact zSnd_rule (zRule0.rule (zr_ald (c := 104) H.1 (nz H.1) H.2.1 H.2.2.1 (by omega) (zdc_ok (hD.trans (of_decide_eq_true e1))))) e3 H.2.2.2
    · exact H.elim
  · cases e1
theorem zo_28 (hG : zCtx G) (ho : zow k < 20) (hD : zdc k pc = D) (H : zEx G l d k P L S m h (28, a, b, ts, n)) (hc : zckI (zow k) k pc D (28, a, b, ts, n) = true) : zSnd G l d k pc L S m h P := by
  unfold zckI at hc
  simp only [] at hc
  simp only [Bool.and_eq_true] at hc
  obtain ⟨⟨e1, e2⟩, e3⟩ := hc
  cases Nat.eq_of_beq_eq_true e2
  split at e1
  · replace H : ze_ast 101 (pc + 1) (zNx G l d k P) L S m h := H
    unfold ze_ast at H
    simp only [] at H
    split at H
    · exact zSnd_rule (zr_ast (c := 101) (Or.inl rfl) rfl H.1 H.2.1 H.2.2.1 H.2.2.2.1 (zdc_ok (hD.trans (of_decide_eq_true e1)))) e3 (H.2.2.2.2 _ rfl)
    · exact H.elim
  · replace H : ze_ast 102 (pc + 1) (zNx G l d k P) L S m h := H
    unfold ze_ast at H
    simp only [] at H
    split at H
    · exact zSnd_rule (zr_bast H.1 H.2.1 H.2.2.1 H.2.2.2.1 (zdc_ok (hD.trans (of_decide_eq_true e1)))) e3 (H.2.2.2.2 _ rfl)
    · exact H.elim
  · replace H : ze_ast 103 (pc + 1) (zNx G l d k P) L S m h := H
    unfold ze_ast at H
    simp only [] at H
    split at H
    · exact zSnd_rule (zr_ast (c := 103) (Or.inr (Or.inl ⟨rfl, H.1⟩)) rfl H.2.1 H.2.2.1 H.2.2.2.1 H.2.2.2.2.1 (zdc_ok (hD.trans (of_decide_eq_true e1)))) e3 (H.2.2.2.2.2 _ rfl)
    · exact H.elim
  · replace H : ze_ast 104 (pc + 1) (zNx G l d k P) L S m h := H
    unfold ze_ast at H
    simp only [] at H
    split at H
    · exact zSnd_rule (zr_ast (c := 104) (Or.inr (Or.inr rfl)) rfl H.1 H.2.1 H.2.2.1 H.2.2.2.1 (zdc_ok (hD.trans (of_decide_eq_true e1)))) e3 (H.2.2.2.2 _ rfl)
    · exact H.elim
  · cases e1
theorem zo_22 (hG : zCtx G) (ho : zow k < 20) (hD : zdc k pc = D) (H : zEx G l d k P L S m h (22, a, b, ts, n)) (hc : zckI (zow k) k pc D (22, a, b, ts, n) = true) : zSnd G l d k pc L S m h P := by
  unfold zckI at hc
  simp only [] at hc
  replace H : ze_switch b ts (zNx G l d k P) L S m h := H
  unfold ze_switch at H
  split at hc
  · rename_i dflt lo hi offs len
    split at hc
    · rename_i t0 ts
      simp only [Bool.and_eq_true, decide_eq_true_eq] at hc
      obtain ⟨⟨⟨⟨rfl, e1⟩, e2⟩, e3⟩, e4⟩ := hc
      have e1 := of_decide_eq_true e1
      split at H
      · rename_i x S d0 ts0 q1
        cases q1
        have key := zr_switch (G := G) (l := l) (L := L) (S := S) (m := m) (h := h) (x := x) (zdc_ok hD)
        have main : ∀ (us : List Nat) (os : List Int) (j : Nat), offs.toList.drop j = os → ts.drop j = us → zsws k pc os us = true → (x < lo ∨ lo + j ≤ x) → ze_sw x L S m h (zNx G l d k P) t0 (lo + j) us → zSnd G l d k pc L (.inl x :: S) m h P := by
          intro us
          induction us with
          | nil =>
            intro os j h1 h2 h3 h4 h5
            have hj : ts.length ≤ j := List.drop_eq_nil_iff.mp h2
            refine zSnd_rule (zRule0.rule (key.2 t0 ?_ e1)) e2 h5
            rcases h4 with h4 | h4
            · exact Or.inl h4
            · exact Or.inr (by omega)
          | cons t us ih =>
            intro os j h1 h2 h3 h4 h5
            match os, h1, h3 with
            | [], h1, h3 => cases h3
            | o :: os, h1, h3 =>
              simp only [zsws, Bool.and_eq_true] at h3
              obtain ⟨⟨g1, g2⟩, g3⟩ := h3
              have hjl : j < ts.length := by
                rcases Nat.lt_or_ge j ts.length with q | q
                · exact q
                · rw [List.drop_eq_nil_of_le q] at h2; cases h2
              have ho : offs[j]? = some o := by
                have := congrArg (fun z => z[0]?) h1
                simpa using this
              by_cases q : x = lo + j
              · exact zSnd_rule (zRule0.rule (key.1 j t o ho q (by omega) (of_decide_eq_true g1))) g2 (h5.1 q)
              · refine ih os (j + 1) ?_ ?_ g3 (by omega) ?_
                · rw [← List.tail_drop, h1]; rfl
                · rw [← List.tail_drop, h2]; rfl
                · have := h5.2 q
                  rw [show lo + ((j + 1 : Nat) : Int) = lo + (j : Int) + 1 by omega]
                  exact this
        refine main ts offs.toList 0 (by simp) (by simp) e4 (by omega) ?_
        rw [show lo + ((0 : Nat) : Int) = lo by omega]
        exact H
      · exact H.elim
    · cases hc
  · cases hc
theorem zo_29 (hG : zCtx G) (ho : zow k < 20) (hD : zdc k pc = D) (H : zEx G l d k P L S m h (29, a, b, ts, n)) (hc : zckI (zow k) k pc D (29, a, b, ts, n) = true) : zSnd G l d k pc L S m h P := by
  unfold zckI at hc
  simp only [] at hc
  replace H : ze_aald a n (zNx G l d k P) L S m h := H
  unfold ze_aald at H
  simp only [Bool.and_eq_true, decide_eq_true_eq] at hc
  obtain ⟨⟨⟨⟨g1, g2⟩, e1⟩, e2⟩, e3⟩ := hc
  cases Nat.eq_of_beq_eq_true e2
  have g1 := Nat.le_of_ble_eq_true g1
  split at H
  · exact zSnd_rule (zRule0.rule (zr_aald (c := a) H.1 (fun q1 e => by have q2 := H.1; rw [e, q1] at q2; omega) H.2.1 H.2.2.1 g1 (Nat.le_of_ble_eq_true g2) (zdc_ok (hD.trans e1)))) e3 H.2.2.2
  · exact H.elim
theorem zo_30 (hG : zCtx G) (ho : zow k < 20) (hD : zdc k pc = D) (H : zEx G l d k P L S m h (30, a, b, ts, n)) (hc : zckI (zow k) k pc D (30, a, b, ts, n) = true) : zSnd G l d k pc L S m h P := by
  unfold zckI at hc
  simp only [] at hc
  replace H : ze_aast a n (zNx G l d k P) L S m h := H
  unfold ze_aast at H
  simp only [Bool.and_eq_true, decide_eq_true_eq] at hc
  obtain ⟨⟨⟨⟨g1, g2⟩, e1⟩, e2⟩, e3⟩ := hc
  cases Nat.eq_of_beq_eq_true e2
  split at H
  · exact zSnd_rule (zr_aast hG (Nat.le_of_ble_eq_true g1) (Nat.le_of_ble_eq_true g2) H.1 H.2.1 H.2.2.1 H.2.2.2.1 H.2.2.2.2.1 (zdc_ok (hD.trans e1))) e3 (H.2.2.2.2.2 _ rfl)
  · exact H.elim
theorem zo_31 (hG : zCtx G) (ho : zow k < 20) (hD : zdc k pc = D) (H : zEx G l d k P L S m h (31, a, b, ts, n)) (hc : zckI (zow k) k pc D (31, a, b, ts, n) = true) : zSnd G l d k pc L S m h P := by
  unfold zckI at hc
  simp only [] at hc
  replace H : ze_alen n (zNx G l d k P) L S m h := H
  unfold ze_alen at H
  simp only [Bool.and_eq_true, decide_eq_true_eq] at hc
  obtain ⟨⟨e1, e2⟩, e3⟩ := hc
  cases Nat.eq_of_beq_eq_true e2
  split at H
  · rename_i v _
    exact zSnd_rule (zRule0.rule (zr_alen H.1.1 (fun q1 e => by have q2 := H.1.1; rw [e, q1] at q2; omega) ⟨(kd h v).toNat, by have := H.1.1; omega, by have := H.1.2; omega, by have := H.1.1; omega⟩ (zdc_ok (hD.trans e1)))) e3 H.2
  · exact H.elim
theorem zo_32 (hG : zCtx G) (ho : zow k < 20) (hD : zdc k pc = D) (H : zEx G l d k P L S m h (32, a, b, ts, n)) (hc : zckI (zow k) k pc D (32, a, b, ts, n) = true) : zSnd G l d k pc L S m h P := by
  unfold zckI at hc
  simp only [] at hc
  replace H : ze_dup n (zNx G l d k P) L S m h := H
  unfold ze_dup at H
  simp only [Bool.and_eq_true, decide_eq_true_eq] at hc
  obtain ⟨⟨e1, e2⟩, e3⟩ := hc
  cases Nat.eq_of_beq_eq_true e2
  split at H
  · rename_i v _
    cases hv : zone v with
    | false => rw [hv] at H; exact H.elim
    | true => rw [hv] at H; exact zSnd_rule (zRule0.rule (zr_dup hv (zdc_ok (hD.trans e1)))) e3 H
  · exact H.elim
theorem zo_34 (hG : zCtx G) (ho : zow k < 20) (hD : zdc k pc = D) (H : zEx G l d k P L S m h (34, a, b, ts, n)) (hc : zckI (zow k) k pc D (34, a, b, ts, n) = true) : zSnd G l d k pc L S m h P := by
  unfold zckI at hc
  simp only [] at hc
  replace H : ze_pop n (zNx G l d k P) L S m h := H
  unfold ze_pop at H
  simp only [Bool.and_eq_true, decide_eq_true_eq] at hc
  obtain ⟨⟨e1, e2⟩, e3⟩ := hc
  cases Nat.eq_of_beq_eq_true e2
  split at H
  · rename_i v _
    cases hv : zone v with
    | false => rw [hv] at H; exact H.elim
    | true => rw [hv] at H; exact zSnd_rule (zRule0.rule (zr_pop hv (zdc_ok (hD.trans e1)))) e3 H
  · exact H.elim
theorem zo_33 (hG : zCtx G) (ho : zow k < 20) (hD : zdc k pc = D) (H : zEx G l d k P L S m h (33, a, b, ts, n)) (hc : zckI (zow k) k pc D (33, a, b, ts, n) = true) : zSnd G l d k pc L S m h P := by
  unfold zckI at hc
  simp only [] at hc
  replace H : ze_dup2 n (zNx G l d k P) L S m h := H
  unfold ze_dup2 at H
  simp only [Bool.and_eq_true, decide_eq_true_eq] at hc
  obtain ⟨⟨e1, e2⟩, e3⟩ := hc
  cases Nat.eq_of_beq_eq_true e2
  split at H
  · rename_i v w _
    cases hv : zone v with
    | false => rw [hv] at H; exact H.elim
    | true =>
      cases hw : zone w with
      | false => rw [hv, hw] at H; exact H.elim
      | true => rw [hv, hw] at H; exact zSnd_rule (zRule0.rule (zr_dup2 hv hw (zdc_ok (hD.trans e1)))) e3 H
  · exact H.elim
theorem zo_36 (hG : zCtx G) (ho : zow k < 20) (hD : zdc k pc = D) (H : zEx G l d k P L S m h (36, a, b, ts, n)) (hc : zckI (zow k) k pc D (36, a, b, ts, n) = true) : zSnd G l d k pc L S m h P := by
  unfold zckI at hc
  simp only [] at hc
  replace H : ze_vret P S m h := H
  unfold ze_vret at H
  simp only [Bool.and_eq_true, decide_eq_true_eq] at hc
  obtain ⟨e1, e2⟩ := hc
  split at H
  · intro _
    refine ⟨none, m, h, H, Int.le_refl _, Int.le_refl _, e2, ?_⟩
    intro p e R s mid args below meth c Hp locs cells slots Q ls h1 h2 h3 h4 h5 h6 h7 h8 h9 kk
    have kk := kk pc ls Hp locs (zdc_ok (hD.trans e1)) (fun w hw => by cases hw <;> exact h3 _ List.mem_cons_self) h4 h5
    simp only [Int.sub_self, Int.toNat_zero, Nat.add_zero] at kk
    exact kk
  · exact H.elim
theorem zo_37 (hG : zCtx G) (ho : zow k < 20) (hD : zdc k pc = D) (H : zEx G l d k P L S m h (37, a, b, ts, n)) (hc : zckI (zow k) k pc D (37, a, b, ts, n) = true) : zSnd G l d k pc L S m h P := by
  unfold zckI at hc
  simp only [] at hc
  replace H : ze_ret a P S m h := H
  unfold ze_ret at H
  simp only [Bool.and_eq_true, decide_eq_true_eq] at hc
  obtain ⟨e1, e2⟩ := hc
  split at H
  · rename_i v
    have hx : P (some (.inl v)) m h ∧ Z_zrok k (some (.inl v)) := by
      split at e2
      · exact ⟨H, Or.inl (of_decide_eq_true e2)⟩
      · exact ⟨H.2, Or.inr (Or.inl ⟨of_decide_eq_true e2, H.1⟩)⟩
      · exact ⟨H.2, Or.inr (Or.inr (Or.inl ⟨of_decide_eq_true e2, H.1⟩))⟩
      · exact ⟨H.2, Or.inr (Or.inr (Or.inr ⟨of_decide_eq_true e2, H.1⟩))⟩
      · cases e2
    intro _
    refine ⟨some (.inl v), m, h, hx.1, Int.le_refl _, Int.le_refl _, hx.2, ?_⟩
    intro p e R s mid args below meth c Hp locs cells slots Q ls h1 h2 h3 h4 h5 h6 h7 h8 h9 kk
    have kk := kk pc ls Hp locs (zdc_ok (hD.trans e1)) (fun w hw => by cases hw; exact h3 _ List.mem_cons_self) h4 h5
    simp only [Int.sub_self, Int.toNat_zero, Nat.add_zero] at kk
    exact kk
  · exact H.elim
theorem zo_38 (hG : zCtx G) (ho : zow k < 20) (hD : zdc k pc = D) (H : zEx G l d k P L S m h (38, a, b, ts, n)) (hc : zckI (zow k) k pc D (38, a, b, ts, n) = true) : zSnd G l d k pc L S m h P := by
  unfold zckI at hc
  simp only [] at hc
  replace H : ze_lret P S m h := H
  unfold ze_lret at H
  simp only [Bool.and_eq_true, decide_eq_true_eq] at hc
  obtain ⟨e1, e2⟩ := hc
  split at H
  · rename_i v
    intro _
    refine ⟨some (.inr (.inl v)), m, h, H, Int.le_refl _, Int.le_refl _, e2, ?_⟩
    intro p e R s mid args below meth c Hp locs cells slots Q ls h1 h2 h3 h4 h5 h6 h7 h8 h9 kk
    have kk := kk pc ls Hp locs (zdc_ok (hD.trans e1)) (fun w hw => by cases hw <;> exact h3 _ List.mem_cons_self) h4 h5
    simp only [Int.sub_self, Int.toNat_zero, Nat.add_zero] at kk
    exact kk
  · exact H.elim
theorem zo_39 (hG : zCtx G) (ho : zow k < 20) (hD : zdc k pc = D) (H : zEx G l d k P L S m h (39, a, b, ts, n)) (hc : zckI (zow k) k pc D (39, a, b, ts, n) = true) : zSnd G l d k pc L S m h P := by
  unfold zckI at hc
  simp only [] at hc
  replace H : ze_aret P S m h := H
  unfold ze_aret at H
  simp only [Bool.and_eq_true, decide_eq_true_eq] at hc
  obtain ⟨e1, e2⟩ := hc
  split at H
  · rename_i v
    have hok : Z_zrok k (some (.inr (.inr v))) := by
      split at e2
      · rename_i q; exact ⟨_, q, Or.inl ⟨_, rfl⟩⟩
      · rename_i q; exact ⟨_, q, Or.inr ⟨_, rfl⟩⟩
      · cases e2
    intro _
    refine ⟨some (.inr (.inr v)), m, h, H, Int.le_refl _, Int.le_refl _, hok, ?_⟩
    intro p e R s mid args below meth c Hp locs cells slots Q ls h1 h2 h3 h4 h5 h6 h7 h8 h9 kk
    have kk := kk pc ls Hp locs (zdc_ok (hD.trans e1)) (fun w hw => by cases hw <;> exact h3 _ List.mem_cons_self) h4 h5
    simp only [Int.sub_self, Int.toNat_zero, Nat.add_zero] at kk
    exact kk
  · exact H.elim
theorem zo_40 (hG : zCtx G) (ho : zow k < 20) (hD : zdc k pc = D) (H : zEx G l d k P L S m h (40, a, b, ts, n)) (hc : zckI (zow k) k pc D (40, a, b, ts, n) = true) : zSnd G l d k pc L S m h P := by
  unfold zckI at hc
  simp only [] at hc
  replace H : ze_oinit n (zNx G l d k P) L S m h := H
  unfold ze_oinit at H
  split at hc
  · simp only [Bool.and_eq_true] at hc
    obtain ⟨⟨e1, e2⟩, e3⟩ := hc
    cases Nat.eq_of_beq_eq_true e2
    split at e1
    · rename_i w q
      split at H
      · rename_i v S
        cases hw : Nat.ble (zwid S) 8 with
        | false => rw [hw] at H; exact H.elim
        | true =>
          rw [hw] at H
          replace H : 0 < v ∧ zNx G l d k P (pc + 3) L S m h := H
          exact zSnd_rule (zRule0.rule (zr_objinit ho q (by omega) (by rw [← zwid_sum]; exact Nat.le_of_ble_eq_true hw) zw_oi zw_oc (zdc_ok hD))) e3 H.2
      · exact H.elim
    · cases e1
  · cases hc
theorem zo_41 (hG : zCtx G) (ho : zow k < 20) (hD : zdc k pc = D) (H : zEx G l d k P L S m h (41, a, b, ts, n)) (hc : zckI (zow k) k pc D (41, a, b, ts, n) = true) : zSnd G l d k pc L S m h P := by
  unfold zckI at hc
  simp only [] at hc
  replace H : zSnd G l d k n L (.inr (.inr b) :: S) m h P := H
  split at hc
  · simp only [Bool.and_eq_true, decide_eq_true_eq] at hc
    obtain ⟨⟨rfl, e2⟩, e3⟩ := hc
    cases Nat.eq_of_beq_eq_true e2
    exact zSnd_rule (zRule0.rule (zr_null (zdc_ok hD))) e3 H
  · simp only [Bool.and_eq_true] at hc
    obtain ⟨⟨e1, e2⟩, e3⟩ := hc
    cases Nat.eq_of_beq_eq_true e2
    split at e1
    · rename_i q
      rw [decide_eq_true_eq] at e1
      subst e1
      exact zSnd_rule (zRule0.rule (zr_sldc ho q (zdc_ok hD))) e3 H
    · cases e1
  · simp only [Bool.and_eq_true] at hc
    obtain ⟨⟨e1, e2⟩, e3⟩ := hc
    cases Nat.eq_of_beq_eq_true e2
    split at e1
    · rename_i q
      rw [decide_eq_true_eq] at e1
      subst e1
      exact zSnd_rule (zRule0.rule (zr_gets hG ho q (Or.inl ⟨rfl, rfl⟩) (zdc_ok hD))) e3 H
    · cases e1
  · cases hc
theorem zo_42 (hG : zCtx G) (ho : zow k < 20) (hD : zdc k pc = D) (H : zEx G l d k P L S m h (42, a, b, ts, n)) (hc : zckI (zow k) k pc D (42, a, b, ts, n) = true) : zSnd G l d k pc L S m h P := by
  unfold zckI at hc
  simp only [] at hc
  replace H : ze_acopy n (zNx G l d k P) L S m h := H
  unfold ze_acopy at H
  split at hc
  · simp only [Bool.and_eq_true] at hc
    obtain ⟨⟨e1, e2⟩, e3⟩ := hc
    cases Nat.eq_of_beq_eq_true e2
    split at e1
    · rename_i w q
      split at H
      · rename_i len dp bb sp aa S
        cases hw : Nat.ble (zwid S) 8 with
        | false => rw [hw] at H; exact H.elim
        | true =>
          rw [hw] at H
          obtain ⟨q1, q2, q3, q4, q5, q6, q7, q8, q9, q10, q11⟩ := H
          exact zSnd_rule (zr_copy ho q (by rw [← zwid_sum]; exact Nat.le_of_ble_eq_true hw) zw_an zw_as zw_ai q1 q2 q3 q4 q6 q7 q8 q9 q10 (zdc_ok hD)) e3 (q11 _ rfl)
      · exact H.elim
    · cases e1
  · cases hc
theorem zo_44 (hG : zCtx G) (ho : zow k < 20) (hD : zdc k pc = D) (H : zEx G l d k P L S m h (44, a, b, ts, n)) (hc : zckI (zow k) k pc D (44, a, b, ts, n) = true) : zSnd G l d k pc L S m h P := by
  unfold zckI at hc
  simp only [] at hc
  replace H : ze_scod n (zNx G l d k P) L S m h := H
  unfold ze_scod at H
  split at hc
  · simp only [Bool.and_eq_true] at hc
    obtain ⟨⟨e1, e2⟩, e3⟩ := hc
    cases Nat.eq_of_beq_eq_true e2
    split at e1
    · rename_i w q
      split at H
      · exact zSnd_rule (zRule0.rule (zr_sfld hG ho q H.1 H.2.1 (Or.inl ⟨rfl, rfl⟩) (zdc_ok hD))) e3 H.2.2
      · exact H.elim
    · cases e1
  · cases hc
theorem zo_45 (hG : zCtx G) (ho : zow k < 20) (hD : zdc k pc = D) (H : zEx G l d k P L S m h (45, a, b, ts, n)) (hc : zckI (zow k) k pc D (45, a, b, ts, n) = true) : zSnd G l d k pc L S m h P := by
  unfold zckI at hc
  simp only [] at hc
  replace H : ze_sval n (zNx G l d k P) L S m h := H
  unfold ze_sval at H
  split at hc
  · simp only [Bool.and_eq_true] at hc
    obtain ⟨⟨e1, e2⟩, e3⟩ := hc
    cases Nat.eq_of_beq_eq_true e2
    split at e1
    · rename_i w q
      split at H
      · exact zSnd_rule (zRule0.rule (zr_sfld hG ho q H.1 H.2.1 (Or.inr ⟨rfl, rfl⟩) (zdc_ok hD))) e3 H.2.2
      · exact H.elim
    · cases e1
  · cases hc
theorem zo_46 (hG : zCtx G) (ho : zow k < 20) (hD : zdc k pc = D) (H : zEx G l d k P L S m h (46, a, b, ts, n)) (hc : zckI (zow k) k pc D (46, a, b, ts, n) = true) : zSnd G l d k pc L S m h P := by
  unfold zckI at hc
  simp only [] at hc
  replace H : ze_two (fun x y => max x y) n (zNx G l d k P) L S m h := H
  unfold ze_two at H
  split at hc
  · simp only [Bool.and_eq_true] at hc
    obtain ⟨⟨e1, e2⟩, e3⟩ := hc
    cases Nat.eq_of_beq_eq_true e2
    split at e1
    · rename_i w q
      split at H
      · rename_i y x S
        cases hw : Nat.ble (zwid S) 8 with
        | false => rw [hw] at H; exact H.elim
        | true =>
          rw [hw] at H
          have hck := zlinkG ho q
          exact zSnd_rule (zRule0.rule (zr_max (zword (by simpa [zckG] using hck) rfl) zw_maxs zw_mi zw_maxc (by rw [← zwid_sum]; exact Nat.le_of_ble_eq_true hw) (zdc_ok hD))) e3 H
      · exact H.elim
    · cases e1
  · cases hc
theorem zo_47 (hG : zCtx G) (ho : zow k < 20) (hD : zdc k pc = D) (H : zEx G l d k P L S m h (47, a, b, ts, n)) (hc : zckI (zow k) k pc D (47, a, b, ts, n) = true) : zSnd G l d k pc L S m h P := by
  unfold zckI at hc
  simp only [] at hc
  replace H : ze_two (fun x y => min x y) n (zNx G l d k P) L S m h := H
  unfold ze_two at H
  split at hc
  · simp only [Bool.and_eq_true] at hc
    obtain ⟨⟨e1, e2⟩, e3⟩ := hc
    cases Nat.eq_of_beq_eq_true e2
    split at e1
    · rename_i w q
      split at H
      · rename_i y x S
        cases hw : Nat.ble (zwid S) 8 with
        | false => rw [hw] at H; exact H.elim
        | true =>
          rw [hw] at H
          have hck := zlinkG ho q
          exact zSnd_rule (zRule0.rule (zr_min (zword (by simpa [zckG] using hck) rfl) zw_mins zw_mi zw_minc (by rw [← zwid_sum]; exact Nat.le_of_ble_eq_true hw) (zdc_ok hD))) e3 H
      · exact H.elim
    · cases e1
  · cases hc
theorem zo_48 (hG : zCtx G) (ho : zow k < 20) (hD : zdc k pc = D) (H : zEx G l d k P L S m h (48, a, b, ts, n)) (hc : zckI (zow k) k pc D (48, a, b, ts, n) = true) : zSnd G l d k pc L S m h P := by
  unfold zckI at hc
  simp only [] at hc
  replace H : ze_unk n (zNx G l d k P) L S m h := H
  unfold ze_unk at H
  split at hc
  · simp only [Bool.and_eq_true] at hc
    obtain ⟨⟨e1, e2⟩, e3⟩ := hc
    cases Nat.eq_of_beq_eq_true e2
    split at e1
    · rename_i w q
      obtain ⟨u, hu, hr⟩ := zr_unk (G := G) (l := l) (L := L) (S := S) (m := m) (h := h) hG ho q (zdc_ok hD)
      exact zSnd_rule (zRule0.rule hr) e3 (H u hu)
    · cases e1
  · cases hc
def zpsh (r : Option zV) (S : List zV) : List zV := match r with
  | some v => v :: S
  | none => S
theorem zS_call {t : Nat} {A S' : List zV} (hn : n = pc + 3) (hzn : zin k n = true) (hS : S = A.reverse ++ S') (hcal : zcal (zSnd G l) d a A m h (ze_ans t n (zNx G l d k P) L S')) (hin0 : zin a 0 = true)
    (hstep : ∀ (d' : Nat) (r : Option zV) (m1 : zM) (h1 : zH), (∀ v ∈ A, zrg v) → (zent A).length ≤ zmaxl a → nx h ≤ nx h1 → Z_zrok a r → zRun G l d' a 0 (zpad (zmaxl a) (zent A)) [] m h r m1 h1 → zCallStep G l k pc A S' m h d' a r m1 h1) : zSnd G l d k pc L S m h P := by
  intro hv
  obtain ⟨hlen, d', rfl, P0, hX, hP0⟩ := hcal
  obtain ⟨r, m1, h1, q1, q2, q3, q4, q5⟩ := hX hin0
  have hans := hP0 r m1 h1 q1
  have hnext : zSnd G l (d' + 1) k n L (zpsh r S') m1 h1 P := by
    unfold ze_ans at hans
    split at hans
    · obtain ⟨rfl, hh⟩ := hans; exact hh
    · obtain ⟨x, rfl, hh⟩ := hans; exact hh
    · obtain ⟨x, rfl, hh⟩ := hans; exact hh
    · obtain ⟨x, rfl, hh⟩ := hans; exact hh
  obtain ⟨r2, m2, h2, u1, u2, u3, u4, u5⟩ := hnext hzn
  refine ⟨r2, m2, h2, u1, Int.le_trans q2 u2, Int.le_trans q3 u3, u4, ?_⟩
  intro p e R s mid args below meth cd Hp locs cells slots Q ls g1 g2 g3 g4 g5 g6 g7 g8 g9 kk
  have hst := hstep d' r m1 h1 (fun v hv => g3 v (by rw [hS]; simp [hv])) hlen q2 q4 q5
  rw [hS, List.map_append, List.map_reverse]
  refine hst p e R s mid args below meth cd Hp locs cells slots Q ls g1 g2.1 g4 g5 (by omega) (by omega) (by omega) (by omega) (fun H' locs' hrr hR' hV' => ?_)
  have el : (r.map (zvV G)).toList ++ S'.map (zvV G) = (zpsh r S').map (zvV G) := by cases r <;> rfl
  rw [el]
  subst hn
  refine u5 p e R s mid args below meth cd H' locs' _ _ Q ls g1 g2 ?_ hR' hV' g6 g7 (by omega) (by omega) (fun pc' ls2 H2 locs2 w1 w0 w2 w3 => ?_)
  · intro v hv
    cases r with
    | none => exact g3 v (by rw [hS]; simp only [zpsh] at hv; simp [hv])
    | some x =>
      rcases List.mem_cons.mp hv with rfl | hv
      · exact hrr _ rfl
      · exact g3 v (by rw [hS]; simp [hv])
  · have := kk pc' ls2 H2 locs2 w1 w0 w2 w3
    rw [show cells + (nx h1 - nx h).toNat + (nx h2 - nx h1).toNat = cells + (nx h2 - nx h).toNat by omega, show slots + (su h1 - su h).toNat + (su h2 - su h1).toNat = slots + (su h2 - su h).toNat by omega]
    exact this
theorem zo_35 (h0 : ∀ a, a ≤ 283 → zin a 0 = true) (hG : zCtx G) (ho : zow k < 20) (hD : zdc k pc = D) (H : zEx G l d k P L S m h (35, a, b, ts, n)) (hc : zckI (zow k) k pc D (35, a, b, ts, n) = true) : zSnd G l d k pc L S m h P := by
  unfold zckI at hc
  simp only [] at hc
  replace H : ze_call a ts n (zNx G l d k P) (zcal (zSnd G l) d) L S m h := H
  unfold ze_call at H
  simp only [Bool.and_eq_true] at hc
  obtain ⟨⟨-, ha⟩, hc⟩ := hc
  have ha := Nat.le_of_ble_eq_true ha
  have hin0 := h0 a ha
  split at hc
  · simp only [Bool.and_eq_true] at hc
    obtain ⟨⟨e1, e2⟩, e3⟩ := hc
    have e2 := Nat.eq_of_beq_eq_true e2
    split at e1
    · rename_i m0 f w q
      simp only [Bool.and_eq_true] at e1
      obtain ⟨⟨g1, g2⟩, g3⟩ := e1
      cases Nat.eq_of_beq_eq_true g1
      split at g3
      · rename_i j c t
        simp only [Bool.and_eq_true] at g3
        obtain ⟨⟨⟨g3, g4⟩, g5⟩, g6⟩ := g3
        cases Nat.eq_of_beq_eq_true g4
        have hst : Z_zms a = false ∧ zsel a = true := by
          cases hz : Z_zms a with
          | true => rw [hz] at g2; cases g2
          | false => rw [hz] at g2; exact ⟨rfl, g2⟩
        obtain ⟨B, S', rfl, hB, HH⟩ := ztk_spec _ _ _ _ H
        cases hw : Nat.ble (zwid S') 8 with
        | false => rw [hw] at HH; exact HH.elim
        | true =>
          rw [hw] at HH
          have HH : zrc (zow a + 1) (B.reverse ++ []) h (zcal (zSnd G l) d a (B.reverse ++ []) m h (ze_ans t n (zNx G l d k P) L S')) := HH
          rw [List.append_nil] at HH
          unfold zrc at HH
          simp only [] at HH
          split at HH
          · rename_i b A hA
            obtain ⟨hb0, hcal⟩ := HH
            refine zS_call e2 e3 (A := (.inr (.inr b)) :: A) (S' := S') (by rw [← hA, List.reverse_reverse]) (by rw [← hA]; exact hcal) hin0 (fun d' r m1 h1 k1 k2 k3 k4 k5 => ?_)
            exact zcall_V hG ho q hst.1 g3 (by have := congrArg List.length hA; simp only [List.length_reverse, List.length_cons] at this; omega) (Nat.le_of_ble_eq_true hw) (Nat.le_of_ble_eq_true g5) hb0 k1 k2 k3 k4 k5 (Or.inl ⟨zdc_ok hD, hst.2⟩)
          · exact HH.elim
      · cases g3
    · cases e1
  · simp only [Bool.and_eq_true] at hc
    obtain ⟨⟨e1, e2⟩, e3⟩ := hc
    have e2 := Nat.eq_of_beq_eq_true e2
    split at e1
    · rename_i m0 f w q
      simp only [Bool.and_eq_true] at e1
      obtain ⟨⟨g1, g2⟩, g3⟩ := e1
      cases Nat.eq_of_beq_eq_true g1
      split at g3
      · rename_i j t
        simp only [Bool.and_eq_true] at g3
        obtain ⟨g3, g6⟩ := g3
        obtain ⟨B, S', rfl, hB, HH⟩ := ztk_spec _ _ _ _ H
        cases hw : Nat.ble (zwid S') 8 with
        | false => rw [hw] at HH; exact HH.elim
        | true =>
          rw [hw] at HH
          have HH : zcal (zSnd G l) d a (B.reverse ++ []) m h (ze_ans t n (zNx G l d k P) L S') := HH
          rw [List.append_nil] at HH
          refine zS_call e2 e3 (A := B.reverse) (S' := S') (by rw [List.reverse_reverse]) HH hin0 (fun d' r m1 h1 k1 k2 k3 k4 k5 => ?_)
          exact zcall_S hG ho q g2 g3 (by rw [List.length_reverse]; exact hB) (Nat.le_of_ble_eq_true hw) k1 k2 k3 k4 k5 (zdc_ok hD)
      · cases g3
    · cases e1
  · simp only [Bool.and_eq_true] at hc
    obtain ⟨⟨e1, e2⟩, e3⟩ := hc
    have e2 := Nat.eq_of_beq_eq_true e2
    split at e1
    · rename_i m0 f w q
      simp only [Bool.and_eq_true] at e1
      obtain ⟨⟨⟨g1, g1b⟩, g2⟩, g3⟩ := e1
      cases Nat.eq_of_beq_eq_true g1
      split at g3
      · rename_i j c
        simp only [Bool.and_eq_true] at g3
        obtain ⟨⟨⟨g3, g4⟩, g5⟩, g6⟩ := g3
        cases Nat.eq_of_beq_eq_true g4
        have hst : Z_zms a = false := by
          cases hz : Z_zms a with
          | true => rw [hz] at g2; cases g2
          | false => rfl
        obtain ⟨B, S', rfl, hB, HH⟩ := ztk_spec _ _ _ _ H
        cases hw : Nat.ble (zwid S') 8 with
        | false => rw [hw] at HH; exact HH.elim
        | true =>
          rw [hw] at HH
          have HH : zrc (zow a + 1) (B.reverse ++ []) h (zcal (zSnd G l) d a (B.reverse ++ []) m h (ze_ans 0 n (zNx G l d k P) L S')) := HH
          rw [List.append_nil] at HH
          unfold zrc at HH
          simp only [] at HH
          split at HH
          · rename_i b A hA
            obtain ⟨hb0, hcal⟩ := HH
            refine zS_call e2 e3 (A := (.inr (.inr b)) :: A) (S' := S') (by rw [← hA, List.reverse_reverse]) (by rw [← hA]; exact hcal) hin0 (fun d' r m1 h1 k1 k2 k3 k4 k5 => ?_)
            exact zcall_V hG ho q hst g3 (by have := congrArg List.length hA; simp only [List.length_reverse, List.length_cons] at this; omega) (Nat.le_of_ble_eq_true hw) (Nat.le_of_ble_eq_true g5) hb0 k1 k2 k3 k4 k5 (Or.inr ⟨zdc_ok hD, of_decide_eq_true g1b, of_decide_eq_true g6⟩)
          · exact HH.elim
      · cases g3
    · cases e1
  · cases hc
theorem zow_lt {k : Nat} (hk : k ≤ 283) : zow k < 20 := by
  have : (List.range 284).all (fun k => Nat.blt (zow k) 20) = true := by decide +kernel
  have h3 := List.all_eq_true.mp this k (List.mem_range.mpr (by omega))
  exact Nat.le_of_ble_eq_true h3
theorem zck_at (hall : ∀ k, k ≤ 283 → Z_zck k = true) (hv : zin k pc = true) : k ≤ 283 ∧ zckI (zow k) k pc (zdc k pc) (zcode k pc) = true := by
  unfold zin at hv
  rw [Bool.and_eq_true] at hv
  have hk := Nat.le_of_ble_eq_true hv.1
  obtain ⟨x, hx, e⟩ := List.any_eq_true.mp hv.2
  cases Nat.eq_of_beq_eq_true e
  have h := hall k hk
  unfold Z_zck at h
  rw [Bool.and_eq_true] at h
  exact ⟨hk, List.all_eq_true.mp h.1 _ hx⟩
theorem zS_clo (hG : zCtx G) (hall : ∀ k, k ≤ 283 → Z_zck k = true) : zClo (zSnd G l) := by
  intro d k pc L S m h P H hv
  obtain ⟨hk, hc⟩ := zck_at hall hv
  have ho := zow_lt hk
  have h0 : ∀ a, a ≤ 283 → zin a 0 = true := fun a ha => by
    have h := hall a ha
    unfold Z_zck at h
    rw [Bool.and_eq_true] at h
    exact h.2
  generalize hi : zcode k pc = i at H hc
  generalize hD : zdc k pc = D at hc
  obtain ⟨op, a, b, ts, n⟩ := i
  match op, H, hc with
  | 0, H, hc => exact zo_0 hG ho hD H hc hv
  | 1, H, hc => exact zo_1 hG ho hD H hc hv
  | 2, H, hc => exact zo_2 hG ho hD H hc hv
  | 3, H, hc => exact zo_3 hG ho hD H hc hv
  | 4, H, hc => exact zo_4 hG ho hD H hc hv
  | 5, H, hc => exact zo_5 hG ho hD H hc hv
  | 6, H, hc => exact zo_6 hG ho hD H hc hv
  | 7, H, hc => exact zo_7 hG ho hD H hc hv
  | 8, H, hc => exact zo_8 hG ho hD H hc hv
  | 9, H, hc => exact zo_9 hG ho hD H hc hv
  | 10, H, hc => exact zo_10 hG ho hD H hc hv
  | 11, H, hc => exact zo_11 hG ho hD H hc hv
  | 12, H, hc => exact zo_12 hG ho hD H hc hv
  | 13, H, hc => exact zo_13 hG ho hD H hc hv
  | 14, H, hc => exact zo_14 hG ho hD H hc hv
  | 15, H, hc => exact zo_15 hG ho hD H hc hv
  | 16, H, hc => exact zo_16 hG ho hD H hc hv
  | 17, H, hc => exact zo_17 hG ho hD H hc hv
  | 18, H, hc => exact zo_18 hG ho hD H hc hv
  | 19, H, hc => exact zo_19 hG ho hD H hc hv
  | 20, H, hc => exact zo_20 hG ho hD H hc hv
  | 21, H, hc => exact zo_21 hG ho hD H hc hv
  | 22, H, hc => exact zo_22 hG ho hD H hc hv
  | 23, H, hc => exact zo_23 hG ho hD H hc hv
  | 24, H, hc => exact zo_24 hk hG ho hD H hc hv
  | 25, H, hc => exact zo_25 hG ho hD H hc hv
  | 26, H, hc => exact zo_26 hG ho hD H hc hv
  | 27, H, hc => exact zo_27 hG ho hD H hc hv
  | 28, H, hc => exact zo_28 hG ho hD H hc hv
  | 29, H, hc => exact zo_29 hG ho hD H hc hv
  | 30, H, hc => exact zo_30 hG ho hD H hc hv
  | 31, H, hc => exact zo_31 hG ho hD H hc hv
  | 32, H, hc => exact zo_32 hG ho hD H hc hv
  | 33, H, hc => exact zo_33 hG ho hD H hc hv
  | 34, H, hc => exact zo_34 hG ho hD H hc hv
  | 35, H, hc => exact zo_35 h0 hG ho hD H hc hv
  | 36, H, hc => exact zo_36 hG ho hD H hc hv
  | 37, H, hc => exact zo_37 hG ho hD H hc hv
  | 38, H, hc => exact zo_38 hG ho hD H hc hv
  | 39, H, hc => exact zo_39 hG ho hD H hc hv
  | 40, H, hc => exact zo_40 hG ho hD H hc hv
  | 41, H, hc => exact zo_41 hG ho hD H hc hv
  | 42, H, hc => exact zo_42 hG ho hD H hc hv
  | 44, H, hc => exact zo_44 hG ho hD H hc hv
  | 45, H, hc => exact zo_45 hG ho hD H hc hv
  | 46, H, hc => exact zo_46 hG ho hD H hc hv
  | 47, H, hc => exact zo_47 hG ho hD H hc hv
  | 48, H, hc => exact zo_48 hG ho hD H hc hv
  | 43, H, hc => exact False.elim H
  | _ + 49, H, hc => exact False.elim H
end ZZ

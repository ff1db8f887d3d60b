/-! SOUNDNESS: copies, long stores, switches. -/
section ZP
variable {G : zG} {l : Launch} {k pc n a : Nat} {L : zL} {S : List zV} {m : zM} {h : zH}
theorem zwid_sum (S : List zV) : zwid S = (S.map fun v => (zvV G v).category).sum := by
  induction S with
  | nil => rfl
  | cons v S ih =>
    obtain x | x | x := v
    · simp only [zwid, List.map_cons, List.sum_cons, ih]
      rw [zcat1 (G := G) (v := .inl x) rfl]; omega
    · simp only [zwid, List.map_cons, List.sum_cons, ih]
      show _ = 2 + _; omega
    · simp only [zwid, List.map_cons, List.sum_cons, ih]
      rw [zcat1 (G := G) (v := .inr (.inr x)) rfl]; omega
theorem zr_copy (ho : zow k < 20) {x w : Nat} {b c sp dp len : Int} (he : zlook (zgL (zow k)) x = some (6, w)) (hw8 : (S.map fun v => (zvV G v).category).sum ≤ 8)
    (hnat : Cond.native arraycopyName ∈ zwsG) (hstt : Cond.static arraycopyName ∈ zwsG) (hini : Cond.initialized "java/lang/System" ∈ zwsG)
    (kb : kd h b = 101) (kc : kd h c = 101) (hbp : 0 < b) (hcp : 0 < c) (h1 : 0 ≤ len) (h2 : 0 ≤ sp) (h3 : 0 ≤ dp) (h4 : sp + len ≤ ln h b) (h5 : dp + len ≤ ln h c) (hd : decode (zbytes k) pc = .ok (.invokestatic x, 3)) :
    zRule G l k pc L (.inl len :: .inl dp :: .inr (.inr c) :: .inl sp :: .inr (.inr b) :: S) m h (pc + 3) L S (fun q j => if q = c ∧ dp ≤ j ∧ j < dp + len then m b (sp + (j - dp)) else m q j) h := by
  refine ⟨Int.le_refl _, Int.le_refl _, fun p e R s mid args below meth cd H locs cells slots Q ls hat hl hS hR hV hf hlo hc hs kk => ?_⟩
  simp only [Int.sub_self, Int.toNat_zero, Nat.add_zero] at hc hs kk
  obtain ⟨hx, hb, hml, hret, hlk, hown, hnm, hts, hK⟩ := hat
  have hck := zlinkG ho he
  have hwd : Cond.methodLink (zon (zow k)) x arraycopyName ∈ zwsG := zword (of_decide_eq_true (p := lw_tbl[w]? = some (Cond.methodLink (zon (zow k)) x arraycopyName)) hck) rfl
  obtain ⟨b1, b2, cellb, b3, b4, b5, b6, b7, b8, b9⟩ := hR.2.2.2.2.1 b 101 (by omega) (by omega) kb
  obtain ⟨c1, c2, cellc, c3, c4, c5, c6, c7, c8, c9⟩ := hR.2.2.2.2.1 c 101 (by omega) (by omega) kc
  obtain ⟨cB, g1, g2, g3⟩ := b8 hbp
  obtain ⟨cC, u1, u2, u3⟩ := c8 hcp
  rw [g1] at b3
  rw [u1] at c3
  have hb3 : H[zad G b]? = some (arrV cB (ln h b).toNat (fun j => .int ((fun j : Nat => Int32.ofInt (m b j)) j))) := b3
  have hc3 : H[zad G c]? = some (arrV cC (ln h c).toNat (fun j => .int ((fun j : Nat => Int32.ofInt (m c j)) j))) := c3
  have e1 := zi_cl (x := sp) h2 (by omega)
  have e2 := zi_cl (x := dp) h3 (by omega)
  have e3 := zi_cl (x := len) h1 (by omega)
  have t1 := zi_of (x := sp) ⟨by omega, by omega⟩
  have t2 := zi_of (x := dp) ⟨by omega, by omega⟩
  have t3 := zi_of (x := len) ⟨by omega, by omega⟩
  have nneg : ∀ z : Int, 0 ≤ z → z < 2147483648 → ¬ Int32.ofInt z < 0 := fun z q1 q2 q => by rw [← zi_0, zi_lt ⟨by omega, by omega⟩ zr_0] at q; omega
  simp only [List.map_cons, zad_ref (G := G) (show b ≠ 0 by omega), zad_ref (G := G) (show c ≠ 0 by omega)]
  show W p l e R s mid args below meth cd H locs cells slots Q (F0 mid pc ls (.int (Int32.ofInt len) :: .int (Int32.ofInt dp) :: .ref (zad G c) :: .int (Int32.ofInt sp) :: .ref (zad G b) :: S.map (zvV G)))
  intro T hT X
  obtain ⟨-, k0, hk0, cm0, hkk0⟩ := (arrOfT_moved hK.1 g2) (ln h b).toNat (fun j => .int (Int32.ofInt (m b j)))
  obtain ⟨-, k1, hk1, cm1, hkk1⟩ := (arrOfT_moved hK.1 u2) (ln h c).toNat (fun j => .int (Int32.ofInt (m c j)))
  obtain ⟨vm', X', step⟩ := X.arraycopy hx hown (hts _ hwd) (hts _ hnat) (hts _ hstt) (hts _ hini) (src := zad G b) (dst := zad G c) (cs := arrV cB (ln h b).toNat (fun j => .int (Int32.ofInt (m b j)))) (cd := arrV cC (ln h c).toNat (fun j => .int (Int32.ofInt (m c j)))) (srcPos := Int32.ofInt sp) (destPos := Int32.ofInt dp) (n := Int32.ofInt len) (by rw [hT]; exact hb3) (by rw [hT]; exact hc3)
    (fun _ h => by cases h) (fun _ h => by cases h) (fun h => by cases h) (fun h => by cases h) hk0 hk1 hkk0 hkk1 (by simp [Z_zat, refKind]) (nneg sp h2 (by omega)) (nneg dp h3 (by omega)) (nneg len h1 (by omega))
    (by rw [t1, t3, arrV_size]; omega) (by rw [t2, t3, arrV_size]; omega)
    (fun vm₁ _ i hi => by
      have e : (arrV cB (ln h b).toNat (fun j => Value.int (Int32.ofInt (m b j)))).slots.getD ((Int32.ofInt sp).toNatClampNeg + i) .null = .int (Int32.ofInt (m b ((Int32.ofInt sp).toNatClampNeg + i : Nat))) := by
        rw [Array.getD_eq_getD_getElem?, arrV_read _ _ (by rw [e1]; rw [e3] at hi; omega)]
        rfl
      refine ⟨?_, ?_⟩
      · rw [e]; rfl
      · rw [e]; exact trivial)
    (g := F0 mid pc ls (.int (Int32.ofInt len) :: .int (Int32.ofInt dp) :: .ref (zad G c) :: .int (Int32.ofInt sp) :: .ref (zad G b) :: S.map (zvV G))) rfl (by rw [hml]; exact hl.1) (rest := S.map (zvV G)) rfl (by rw [hb]; exact hd) (by omega) (by rw [List.map_map]; show 2 * 0 + (S.map fun v => (zvV G v).category).sum + (7 + 11) ≤ _; omega)
  have ec : copied (arrV cB (ln h b).toNat (fun j => Value.int (Int32.ofInt (m b j)))) (arrV cC (ln h c).toNat (fun j => Value.int (Int32.ofInt (m c j)))) (Int32.ofInt sp) (Int32.ofInt dp) (Int32.ofInt len) = arrV cC (ln h c).toNat (fun j => .int (va_cpy (fun j : Nat => Int32.ofInt (m b j)) (fun j : Nat => Int32.ofInt (m c j)) sp.toNat dp.toNat len.toNat j)) := by
    have := va_copied (fun z => Value.int z) cB cC (n0 := (ln h b).toNat) (n1 := (ln h c).toNat) (sp := (Int32.ofInt sp).toNatClampNeg) (dp := (Int32.ofInt dp).toNatClampNeg) (n := (Int32.ofInt len).toNatClampNeg) (fun j : Nat => Int32.ofInt (m b j)) (fun j : Nat => Int32.ofInt (m c j)) (by rw [e1, e3]; omega)
    rw [e1, e2, e3] at this
    rw [← this, ← e1, ← e2, ← e3]
  rw [ec] at X' step
  have hl0 : zad G c < H.size := (Array.getElem?_eq_some_iff.mp hc3).1
  generalize hcn : arrV cC (ln h c).toNat (fun j => Value.int (va_cpy (fun j : Nat => Int32.ofInt (m b j)) (fun j : Nat => Int32.ofInt (m c j)) sp.toNat dp.toNat len.toNat j)) = cn at X' step
  have hheap : ((T.setVm vm').setCell (zad G c) cn).heap = H.setIfInBounds (zad G c) cn := by rw [← hT]; rfl
  have oq : ∀ q : Nat, q ≠ zad G c → (H.setIfInBounds (zad G c) cn)[q]? = H[q]? := fun q hq => by simp [Array.getElem?_setIfInBounds, Ne.symm hq]
  have osz : (H.setIfInBounds (zad G c) cn).size = H.size := by simp
  have oc : (H.setIfInBounds (zad G c) cn)[zad G c]? = some cn := by simp [Array.getElem?_setIfInBounds, hl0]
  have hcn2 : cn = arrV cC (ln h c).toNat (fun j : Nat => zvV G (zfv (Z_zat 101) ((fun (q j : Int) => if q = c ∧ dp ≤ j ∧ j < dp + len then m b (sp + (j - dp)) else m q j) c j))) := by
    rw [← hcn]
    congr 1
    funext j
    show Value.int _ = Value.int (Int32.ofInt _)
    congr 1
    unfold va_cpy
    dsimp only
    by_cases q : dp.toNat ≤ j ∧ j < dp.toNat + len.toNat
    · rw [if_pos q, if_pos ⟨rfl, by omega, by omega⟩]
      congr 2
      omega
    · rw [if_neg q, if_neg (by omega)]
  have hrel : zRel G (fun q j => if q = c ∧ dp ≤ j ∧ j < dp + len then m b (sp + (j - dp)) else m q j) h (H.setIfInBounds (zad G c) cn) := by
    refine zRel_upd hR (a := c) (by omega) hcp osz oq (fun b' hb' => by funext j; rw [if_neg (fun z => hb' z.1)]) (fun c' q1 q2 hb' => by omega) (fun c' q1 q2 hb' => ?_)
    have hcc : c' = 101 := by omega
    subst hcc
    refine ⟨c1, c2, cn, oc, by rw [hcn2]; exact u2 _ _, (fun h => by rw [hcn2] at h; cases h), by rw [hcn2, arrV_size]; exact Nat.le_refl _, ?_, fun _ => ⟨cC, hcn2, u2, u3⟩, fun j hj => ⟨by rw [hcn2]; exact arrV_read _ _ (by omega), ?_⟩⟩
    · rw [u1, arrV_size] at c7
      rw [hcn2, arrV_size]; exact c7
    · show zri _
      dsimp only
      split
      · rename_i q
        have := (b9 (sp + ((j : Int) - dp)).toNat (by omega)).2
        rw [show (((sp + ((j : Int) - dp)).toNat : Nat) : Int) = sp + ((j : Int) - dp) by omega] at this
        exact this
      · exact (c9 j hj).2
  obtain ⟨t, a1, bb1⟩ := kk ls _ (locs ++ _) hl (fun v hv => hS v (by simp [hv])) hrel ⟨by rw [osz]; exact hV.1, fun q g1 g2 => by
      rw [oq q (fun e => g2 (by rw [e]; exact zad_pos hcp))]
      exact hV.2.1 q g1 g2, fun q hq => by
      rcases List.mem_append.mp hq with h | h
      · exact hV.2.2 q h
      · obtain ⟨z, -, hz⟩ := List.mem_map.mp h
        rw [← hz]
        exact zad_pos hcp⟩ _ hheap X'
  exact ⟨t, step t a1, bb1⟩
/-- a long's store -/
theorem zst_two {G : zG} {ls : Array Slot} {n a : Nat} {L : zL} {x : Int} (hh : zlR G ls n L) (ha : a + 1 < n) (hr : Z_zrl x) : ∃ ls', storeLocals ls a (zvV G (.inr (.inl x))) = some ls' ∧ zlR G ls' n (zset (zprv (zset (zprv (zset (zprv L a) a (some (.inr (.inl x)))) (a + 1)) (a + 1) none) a) a (some (.inr (.inl x)))) := by
  obtain ⟨ls', e', h'⟩ := lv_store2 (l := []) (v := zvV G (.inr (.inl x))) ⟨hh.1, hh.2.1, fun q hq => by cases hq⟩ ha rfl
  refine ⟨ls', e', h'.1, h'.2.1, by simp only [zset_length, zprv_length]; exact hh.2.2.1, fun i w hw => ?_⟩
  rw [zget_zset] at hw
  by_cases hi : i = a
  · subst hi
    rw [if_pos ⟨rfl, by simp only [zset_length, zprv_length]; rw [hh.2.2.1]; omega⟩] at hw
    cases hw
    exact ⟨h'.2.2 (i, zvV G (.inr (.inl x))) List.mem_cons_self, hr⟩
  · rw [if_neg (fun q => hi q.1), zget_zprv] at hw
    obtain ⟨hw, -⟩ := hw
    rw [zget_zset] at hw
    by_cases hi2 : i = a + 1
    · subst hi2
      rw [if_pos ⟨rfl, by simp only [zset_length, zprv_length]; rw [hh.2.2.1]; omega⟩] at hw
      cases hw
    · rw [if_neg (fun q => hi2 q.1), zget_zprv] at hw
      obtain ⟨hw, -⟩ := hw
      rw [zget_zset, if_neg (fun q => hi q.1), zget_zprv] at hw
      obtain ⟨hw, hnl⟩ := hw
      obtain ⟨ls2, e2, h2⟩ := lv_store2 (l := [(i, zvV G w)]) (v := zvV G (.inr (.inl x))) (zlR_has hh hw) ha rfl
      cases e'.symm.trans e2
      refine ⟨h2.2.2 (i, zvV G w) ?_, (hh.2.2.2 i w hw).2⟩
      refine List.mem_cons_of_mem _ (List.mem_filter.mpr ⟨List.mem_cons_self, ?_⟩)
      have h3 : ¬ (i + 1 = a ∧ (zvV G w).category = 2) := by
        rintro ⟨q1, q2⟩
        refine hnl ⟨q1, ?_⟩
        obtain x | x | x := w
        · cases q2
        · exact ⟨x, rfl⟩
        · rw [zcat1 (G := G) (v := .inr (.inr x)) rfl] at q2; cases q2
      simp only [Bool.and_eq_true, Bool.not_eq_true', beq_eq_false_iff_ne, Bool.and_eq_false_iff, beq_iff_eq]
      refine ⟨hi, hi2, ?_⟩
      by_cases q : i + 1 = a
      · exact Or.inr (fun q2 => h3 ⟨q, q2⟩)
      · exact Or.inl q
theorem zr_lstore {b : Int} (ha : a + 1 < zmaxl k) (hd : decode (zbytes k) pc = .ok (.lstore a, 2)) : zRule0 G l k pc L (.inr (.inl b) :: S) (pc + 2) (zset (zprv (zset (zprv (zset (zprv L a) a (some (.inr (.inl b)))) (a + 1)) (a + 1) none) a) a (some (.inr (.inl b)))) S m h := by
  intro p e R s mid args below meth c H locs cells slots Q ls hat hl hS hR hV hf hlo hc hs kk
  obtain ⟨hx, hb, hml, hret, hlk, hown, hnm, hts, hK⟩ := hat
  obtain ⟨ls', e', h'⟩ := zst_two hl ha (hS _ List.mem_cons_self)
  have kk := kk ls' h' (fun v hv => hS v (List.mem_cons_of_mem _ hv))
  intro T hT X
  obtain ⟨t, a1, b1⟩ := kk T hT X
  refine ⟨t, ?_, b1⟩
  have e' : storeLocals ls a (.long (Int64.ofInt b)) = some ls' := e'
  show Steps p.tables e below (T.setTop (F0 mid pc ls (.long (Int64.ofInt b) :: S.map (zvV G)))) t
  jvm_step X.here [X.here.top, ↓top_set X.here.top, hx, hb, hd, e']
  exact a1
theorem zr_lstore_n {b : Int} (ha : a + 1 < zmaxl k) {x : Fin 4} (hxa : x.val = a) (hd : decode (zbytes k) pc = .ok (.lstore_n x, 1)) : zRule0 G l k pc L (.inr (.inl b) :: S) (pc + 1) (zset (zprv (zset (zprv (zset (zprv L a) a (some (.inr (.inl b)))) (a + 1)) (a + 1) none) a) a (some (.inr (.inl b)))) S m h := by
  intro p e R s mid args below meth c H locs cells slots Q ls hat hl hS hR hV hf hlo hc hs kk
  obtain ⟨hx, hb, hml, hret, hlk, hown, hnm, hts, hK⟩ := hat
  obtain ⟨ls', e', h'⟩ := zst_two hl ha (hS _ List.mem_cons_self)
  have kk := kk ls' h' (fun v hv => hS v (List.mem_cons_of_mem _ hv))
  intro T hT X
  obtain ⟨t, a1, b1⟩ := kk T hT X
  refine ⟨t, ?_, b1⟩
  have e' : storeLocals ls x.val (.long (Int64.ofInt b)) = some ls' := hxa ▸ e'
  show Steps p.tables e below (T.setTop (F0 mid pc ls (.long (Int64.ofInt b) :: S.map (zvV G)))) t
  jvm_step X.here [X.here.top, ↓top_set X.here.top, hx, hb, hd, e']
  exact a1
/-- the static that is only carried: null, or the reference that stands for -11 -/
theorem zr_unk (hG : zCtx G) (ho : zow k < 20) {x w : Nat} (he : zlook (zgL (zow k)) x = some (7, w)) (hd : decode (zbytes k) pc = .ok (.getstatic x, 3)) : ∃ u : Int, (u = 0 ∨ u = -11) ∧ zRule0 G l k pc L S (pc + 3) L (.inr (.inr u) :: S) m h := by
  have hck := zlinkG ho he
  have hw : Cond.fieldLink (zon (zow k)) x "jdk/internal/util/Preconditions" "SIOOBE_FORMATTER" "Ljava/util/function/BiFunction;" ∈ zwsG := zword (by simpa [zckG] using hck) rfl
  rcases hG.2.2.2.2.1 with hZ | hZ
  · refine ⟨0, Or.inl rfl, ?_⟩
    intro p e R s mid args below meth cd H locs cells slots Q ls hat hl hS hR hV hf hlo hc hs kk
    obtain ⟨hx, hb, hml, hret, hlk, hown, hnm, hts, hK⟩ := hat
    have kk := kk ls hl (by intro v hv; rcases List.mem_cons.mp hv with rfl | hv; trivial; exact hS v hv)
    obtain ⟨cf, kf, fi, f, a, cell, z1, z2, z3, z4, z5, z6, z7, z8⟩ := zstat hZ hK hR
    exact W.gets hx hb hown (hts _ hw) z1 z2 z3 z4 z5 (fun e => by rw [e] at z6; cases z6) z7 rfl hd kk
  · refine ⟨-11, Or.inr rfl, ?_⟩
    intro p e R s mid args below meth cd H locs cells slots Q ls hat hl hS hR hV hf hlo hc hs kk
    obtain ⟨hx, hb, hml, hret, hlk, hown, hnm, hts, hK⟩ := hat
    have kk := kk ls hl (by intro v hv; rcases List.mem_cons.mp hv with rfl | hv; trivial; exact hS v hv)
    simp only [List.map_cons, zad_ref (G := G) (show (-11 : Int) ≠ 0 by omega)] at kk
    obtain ⟨cf, kf, fi, f, a, cell, z1, z2, z3, z4, z5, z6, z7, z8⟩ := zstat hZ hK hR
    exact W.gets hx hb hown (hts _ hw) z1 z2 z3 z4 z5 (fun e => by rw [e] at z6; cases z6) z7 rfl hd kk
/-- a switch: the targets one after another -/
theorem zr_switch {dflt lo hi : Int} {offs : Array Int} {len : Nat} {x : Int} (hd : decode (zbytes k) pc = .ok (.tableswitch dflt lo hi offs, len)) :
    (∀ (j : Nat) (t : Nat) (off : Int), offs[j]? = some off → x = lo + j → lo + j ≤ hi → (pc : Int) + off = (t : Int) → zRule0 G l k pc L (.inl x :: S) t L S m h) ∧
    (∀ t : Nat, (x < lo ∨ hi < x) → (pc : Int) + dflt = (t : Int) → zRule0 G l k pc L (.inl x :: S) t L S m h) := by
  constructor
  · intro j t off ho hxj hjh ht p e R s mid args below meth cd H locs cells slots Q ls hat hl hS hR hV hf hlo hc hs kk
    obtain ⟨hx, hb, hml, hret, hlk, hown, hnm, hts, hK⟩ := hat
    have hxr : zri x := hS (.inl x) List.mem_cons_self
    have kk := kk ls hl (fun v hv => hS v (List.mem_cons_of_mem _ hv))
    exact lv_tableIn hx hb hd (by rw [zi_of hxr]; omega) (by rw [zi_of hxr]; omega) (by rw [zi_of hxr, show (x - lo).toNat = j by omega]; exact ho) ht kk
  · intro t hxo ht p e R s mid args below meth cd H locs cells slots Q ls hat hl hS hR hV hf hlo hc hs kk
    obtain ⟨hx, hb, hml, hret, hlk, hown, hnm, hts, hK⟩ := hat
    have hxr : zri x := hS (.inl x) List.mem_cons_self
    have kk := kk ls hl (fun v hv => hS v (List.mem_cons_of_mem _ hv))
    exact lv_tableOut hx hb hd (by rw [zi_of hxr]; exact hxo) ht kk
end ZP

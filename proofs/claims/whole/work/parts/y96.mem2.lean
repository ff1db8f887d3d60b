/-! SOUNDNESS: what is made; arrays. -/
section ZN
variable {G : zG} {l : Launch} {k pc n a : Nat} {L : zL} {S : List zV} {m : zM} {h : zH}
theorem zad_nx {H : Heap} (hR : zRel G m h H) : zad G (nx h) = H.size := by
  obtain ⟨⟨h1, h2⟩, -⟩ := hR
  rw [zad, if_pos (by omega), h2]
  omega
theorem zpush_old {H : Heap} {x : Cell} {q : Nat} (hq : q < H.size) : (H.push x)[q]? = H[q]? := by
  rw [Array.getElem?_push, if_neg (by omega)]
theorem zpush_new {H : Heap} {x : Cell} : (H.push x)[H.size]? = some x := by
  rw [Array.getElem?_push, if_pos rfl]
/-- a cell more -/
theorem zRel_push {H : Heap} {x : Cell} {c : Nat} {w s : Int} (hR : zRel G m h H) (hc0 : c ≠ 0) (hc14 : c ≠ 14)
    (hobj : 1 ≤ c → c ≤ 13 → zObj G (znm m h) (H.push x) (nx h) c) (harr : 101 ≤ c → c ≤ 123 → zArr G (znm m h) (znh h c w s) (H.push x) (nx h) c) : zRel G (znm m h) (znh h c w s) (H.push x) := by
  have hR0 := hR
  obtain ⟨⟨h1, h2⟩, h3, ⟨h4, h4b, h4c⟩, h5, h6, h7⟩ := hR
  have hkd : ∀ b, kd (znh h c w s) b = if b = nx h then (c : Int) else kd h b := fun _ => rfl
  have hln : ∀ b, ln (znh h c w s) b = if b = nx h then w else ln h b := fun _ => rfl
  have hnx : nx (znh h c w s) = nx h + 1 := rfl
  have hmm : ∀ b, b ≠ nx h → znm m h b = m b := fun b hb => by funext j; simp [znm, hb]
  refine ⟨⟨by omega, by rw [Array.size_push, h2, hnx]; omega⟩, fun q hq => (zpush_old (by omega)).trans (h3 q hq), ⟨by rw [hkd, if_neg (by omega)]; exact h4, fun b hb => ?_, fun b hb hb2 => ?_⟩, fun b c' c1 c2 hb => ?_, fun b c' c1 c2 hb => ?_, fun b hb => ?_⟩
  · rw [hkd] at hb
    by_cases e : b = nx h
    · omega
    · rw [if_neg e] at hb; have := h4b b hb; omega
  · rw [hkd, if_neg (by omega)] at hb2
    exact h4c b hb hb2
  · rw [hkd] at hb
    by_cases e : b = nx h
    · rw [if_pos e] at hb
      have : c' = c := by omega
      subst this; subst e
      exact hobj c1 c2
    · rw [if_neg e] at hb
      obtain ⟨o1, o2, o3⟩ := h5 b c' c1 c2 hb
      rw [zObj, hmm b e]
      exact ⟨o1, o2.kept (zpush_old (hR0.lt (by omega) o1)), o3⟩
  · rw [hkd] at hb
    by_cases e : b = nx h
    · rw [if_pos e] at hb
      have : c' = c := by omega
      subst this; subst e
      exact harr c1 c2
    · rw [if_neg e] at hb
      obtain ⟨o1, o2, cell, o3, o4⟩ := h6 b c' c1 c2 hb
      rw [zArr, hmm b e, hln, if_neg e]
      exact ⟨o1, o2, cell, (zpush_old (Array.getElem?_eq_some_iff.mp o3).1).trans o3, o4⟩
  · rw [hkd] at hb
    by_cases e : b = nx h
    · rw [if_pos e] at hb; omega
    · rw [if_neg e] at hb; exact h7 b hb
theorem zdef {t : FieldType} (hf : t ≠ .float) (hd : t ≠ .double) : defaultValue t = zvV G (zfv t 0) := by
  cases t with
  | float => exact absurd rfl hf
  | double => exact absurd rfl hd
  | _ => rfl
theorem zdef_rg {t : FieldType} : zrg (zfv t 0) := by
  unfold zfv
  split
  · exact ⟨by omega, by omega⟩
  · trivial
  · exact zr_0
theorem zclink {o i c w : Nat} (ho : o < 20) (he : zlook (zclL o) i = some (c, w)) : 1 ≤ c ∧ c ≤ 13 ∧ Cond.classLink (zon o) i (zcn c) ∈ zwsG := by
  have h := List.all_eq_true.mp (List.all_eq_true.mp zC_ok o (List.mem_range.mpr ho)) _ (zlook_mem he)
  unfold zckC at h
  simp only [Bool.and_eq_true, decide_eq_true_eq] at h
  exact ⟨Nat.le_of_ble_eq_true h.1.1, Nat.le_of_ble_eq_true h.1.2, zword h.2 rfl⟩
theorem zcls {c : Nat} (h1 : 1 ≤ c) (h2 : c ≤ 13) : Cond.instantiable (zcn c) (zcN c) ∈ zwsG ∧ Cond.initialized (zcn c) ∈ zwsG ∧ (Nat.beq (zcw c).2.2 0 = false → Cond.arrayOver (.object (zcn c)) ∈ lw_tbl) := by
  have h := List.all_eq_true.mp zZ_ok (c - 1) (List.mem_range.mpr (by omega))
  rw [Nat.sub_add_cancel h1] at h
  unfold zckZ at h
  generalize hz : zcw c = z at h
  obtain ⟨q1, q2, q3⟩ := z
  simp only [Bool.and_eq_true, decide_eq_true_eq, Bool.or_eq_true] at h
  refine ⟨zword h.1.1.1.1 rfl, zword h.1.1.1.2 rfl, fun hq => ?_⟩
  rcases h.1.1.2 with q | q
  · rw [q] at hq; cases hq
  · exact List.mem_of_getElem? q
theorem zr_new (hG : zCtx G) (ho : zow k < 20) {x c w : Nat} (he : zlook (zclL (zow k)) x = some (c, w)) (hd : decode (zbytes k) pc = .ok (.new x, 3)) :
    zRule G l k pc L S m h (pc + 3) L (.inr (.inr (nx h)) :: S) (znm m h) (znh h c 0 (zcN c : Nat)) := by
  have e1 : nx (znh h c 0 (zcN c : Nat)) = nx h + 1 := rfl
  have e2 : su (znh h c 0 (zcN c : Nat)) = su h + (zcN c : Nat) := rfl
  refine ⟨by omega, by omega, fun p e R s mid args below meth cd H locs cells slots Q ls hat hl hS hR hV hf hlo hc hs kk => ?_⟩
  obtain ⟨hx, hb, hml, hret, hlk, hown, hnm, hts, hK⟩ := hat
  obtain ⟨h1, h2, hw⟩ := zclink ho he
  obtain ⟨w1, w2, -⟩ := zcls h1 h2
  have ev : zvV G (.inr (.inr (nx h))) = .ref H.size := by rw [← zad_nx hR]; exact if_neg (by have := hR.1.1; omega)
  rw [show (nx (znh h c 0 (zcN c : Nat)) - nx h).toNat = 1 by omega] at hc kk
  rw [show (su (znh h c 0 (zcN c : Nat)) - su h).toNat = zcN c by omega] at hs kk
  refine W.newc hx hb hown (hts _ hw) (hts _ w1) (hts _ w2) rfl hd hc hs (fun cC kC g1 g2 g3 g4 => ?_)
  have hKn := zKn hG hK h1 h2
  have hcc : cC = G.2.2.1 c := Option.some.inj (g1.symm.trans hKn.2.1)
  subst hcc
  have hrel : zRel G (znm m h) (znh h c 0 (zcN c : Nat)) (H.push { cls := G.2.2.1 c, slots := kC.instanceTypes.map defaultValue, vm := .none }) := by
    refine zRel_push hR (by omega) (by omega) (fun _ _ => ⟨by have := hR.1.1; omega, ?_, fun j hj => ?_⟩) (fun c1 c2 => by omega)
    · rw [zad_nx hR]
      refine t_OB.to (u_born (zcy c) hts (zlays_in h1 h2) hKn g2 zpush_new (fun k hk => zparse h1 h2 hk)) (fun j hj => ?_)
      obtain ⟨-, -, -, t4, t5⟩ := zty_ok h1 h2 hj
      rw [zdef (G := G) t4 t5]
      simp [znm]
    · simp only [znm, if_pos]
      exact zdef_rg
  have kk := kk ls _ locs hl (by intro v hv; rcases List.mem_cons.mp hv with rfl | hv; trivial; exact hS v hv) hrel ⟨by rw [Array.size_push]; exact Nat.le_succ_of_le hV.1, fun q q1 q2 => (zpush_old (Nat.lt_of_lt_of_le q1 hV.1)).trans (hV.2.1 q q1 q2), hV.2.2⟩
  simp only [List.map_cons, ev] at kk
  exact kk
theorem zfv_null {c : Nat} : zvV G (zfv (.object (zcn c)) 0) = .null := rfl
theorem zR_newa {H : Heap} {c : Nat} {w : Int} {cA : ClassId} (hR : zRel G m h H) (hc : (101 ≤ c ∧ c ≤ 104) ∨ (111 ≤ c ∧ c ≤ 123)) (h0 : 0 ≤ w) (hw : w ≤ 100000) (hA1 : ArrOfT G.1 cA (Z_zat c)) (hA2 : va_RA G.1 cA (Z_zat c)) (hdf : defaultValue (Z_zat c) = zvV G (zfv (Z_zat c) 0)) :
    zRel G (znm m h) (znh h c w w) (H.push { cls := cA, slots := Array.replicate w.toNat (defaultValue (Z_zat c)), vm := .none }) := by
  refine zRel_push hR (by omega) (by omega) (fun _ _ => by omega) (fun _ _ => ?_)
  have hln : ln (znh h c w w) (nx h) = w := if_pos rfl
  rw [arrV_new]
  refine ⟨by rw [hln]; exact h0, by rw [hln]; omega, arrV cA w.toNat (fun _ => defaultValue (Z_zat c)), by rw [zad_nx hR]; exact zpush_new, hA1 _ _, (fun h => by cases h), by rw [arrV_size, hln]; exact Nat.le_refl _, ?_, fun _ => ⟨cA, ?_, hA1, hA2⟩, fun j hj => ?_⟩
  · rw [arrV_size, hln]
    apply Int32.toInt_inj.mp
    rw [zi_of ⟨by omega, by omega⟩]
    show (Int32.ofNat w.toNat).toInt = w
    have := nI_toInt (n := w.toNat) (by omega)
    unfold nI at this
    rw [this]; omega
  · rw [hln]
    congr 1
    funext j
    simp only [znm, if_pos]
    exact hdf
  · rw [hln] at hj
    rw [arrV_read _ _ (by omega)]
    simp only [znm, if_pos]
    exact ⟨congrArg some hdf, zdef_rg⟩
theorem zr_newq (hG : zCtx G) (ho : zow k < 20) {x c w0 : Nat} {w : Int} (he : zlook (zclL (zow k)) x = some (c, w0)) (hcw : Nat.beq (zcw c).2.2 0 = false) (h0 : 0 ≤ w) (hw : w ≤ 100000) (hd : decode (zbytes k) pc = .ok (.anewarray x, 3)) :
    zRule G l k pc L (.inl w :: S) m h (pc + 3) L (.inr (.inr (nx h)) :: S) (znm m h) (znh h (110 + c : Nat) w w) := by
  have e1 : nx (znh h (110 + c : Nat) w w) = nx h + 1 := rfl
  have e2 : su (znh h (110 + c : Nat) w w) = su h + w := rfl
  refine ⟨by omega, by omega, fun p e R s mid args below meth cd H locs cells slots Q ls hat hl hS hR hV hf hlo hc hs kk => ?_⟩
  obtain ⟨hx, hb, hml, hret, hlk, hown, hnm, hts, hK⟩ := hat
  obtain ⟨h1, h2, hwd⟩ := zclink ho he
  have ev : zvV G (.inr (.inr (nx h))) = .ref H.size := by rw [← zad_nx hR]; exact if_neg (by have := hR.1.1; omega)
  rw [show (nx (znh h (110 + c : Nat) w w) - nx h).toNat = 1 by omega] at hc kk
  rw [show (su (znh h (110 + c : Nat) w w) - su h).toNat = w.toNat by omega] at hs kk
  have hcl := zi_cl (x := w) h0 (by omega)
  have hAO := va_AO.moved hK.1 (hG.2.2.2.1 c h1 h2 hcw)
  have hzat : Z_zat (110 + c) = .object (zcn c) := by
    have : ∀ c, 1 ≤ c → c ≤ 13 → Z_zat (110 + c) = .object (zcn (110 + c - 110)) := by
      intro c h1 h2
      rcases (show c = 1 ∨ c = 2 ∨ c = 3 ∨ c = 4 ∨ c = 5 ∨ c = 6 ∨ c = 7 ∨ c = 8 ∨ c = 9 ∨ c = 10 ∨ c = 11 ∨ c = 12 ∨ c = 13 by omega) with h | h | h | h | h | h | h | h | h | h | h | h | h <;> subst h <;> rfl
    rw [this c h1 h2, Nat.add_sub_cancel_left]
  refine W.anew hx hb hown (hts _ hwd) (va_AO.use hAO) rfl hd (n := Int32.ofInt w) (rest := S.map (zvV G)) rfl (fun q => by rw [← zi_0, zi_lt ⟨by omega, by omega⟩ zr_0] at q; omega) (by rw [hcl]; omega) hc (by rw [hcl]; exact hs) (fun cA kA comp f1 f2 f3 f4 => ?_)
  have hAr : ArrOfT s cA (.object (zcn c)) := fun N z => ⟨(fun k h => by cases h), kA, f2, comp, f3⟩
  have hRA : va_RA s cA (.object (zcn c)) := ⟨kA, comp, f2, f3, f4, f1⟩
  have hrel := zR_newa (c := 110 + c) (cA := cA) hR (Or.inr ⟨by omega, by omega⟩) h0 hw (by rw [hzat]; exact arrOfT_moved hK.1.symm hAr) (by rw [hzat]; exact va_RA.moved hK.1.symm hRA) (by rw [hzat]; rfl)
  rw [hzat] at hrel
  rw [hcl]
  have kk := kk ls _ locs hl (by intro v hv; rcases List.mem_cons.mp hv with rfl | hv; trivial; exact hS v (by simp [hv])) hrel ⟨by rw [Array.size_push]; exact Nat.le_succ_of_le hV.1, fun q q1 q2 => (zpush_old (Nat.lt_of_lt_of_le q1 hV.1)).trans (hV.2.1 q q1 q2), hV.2.2⟩
  simp only [List.map_cons, ev] at kk
  exact kk
theorem zaw_ok {c : Nat} (h1 : 101 ≤ c) (h2 : c ≤ 104) : Cond.arrayClass (Z_zat c) ∈ zwsG := by
  have : (List.range 4).all (fun j => decide (lw_tbl[zaw (j + 101)]? = some (.arrayClass (Z_zat (j + 101))))) = true := by decide +kernel
  have h3 := List.all_eq_true.mp this (c - 101) (List.mem_range.mpr (by omega))
  rw [Nat.sub_add_cancel h1] at h3
  simp only [decide_eq_true_eq] at h3
  exact zword h3 rfl
theorem zat_prim {c : Nat} (h1 : 101 ≤ c) (h2 : c ≤ 104) : Z_zat c = .int ∨ Z_zat c = .byte ∨ Z_zat c = .boolean ∨ Z_zat c = .long := by
  rcases (show c = 101 ∨ c = 102 ∨ c = 103 ∨ c = 104 by omega) with h | h | h | h <;> subst h
  · exact Or.inl rfl
  · exact Or.inr (Or.inl rfl)
  · exact Or.inr (Or.inr (Or.inl rfl))
  · exact Or.inr (Or.inr (Or.inr rfl))
theorem zr_newa {t : ArrayType} {c : Nat} {w : Int} (h1 : 101 ≤ c) (h2 : c ≤ 104) (ht : newarray.typeOf t = Z_zat c) (h0 : 0 ≤ w) (hw : w ≤ 100000) (hd : decode (zbytes k) pc = .ok (.newarray t, 2)) :
    zRule G l k pc L (.inl w :: S) m h (pc + 2) L (.inr (.inr (nx h)) :: S) (znm m h) (znh h c w w) := by
  have e1 : nx (znh h c w w) = nx h + 1 := rfl
  have e2 : su (znh h c w w) = su h + w := rfl
  refine ⟨by omega, by omega, fun p e R s mid args below meth cd H locs cells slots Q ls hat hl hS hR hV hf hlo hc hs kk => ?_⟩
  obtain ⟨hx, hb, hml, hret, hlk, hown, hnm, hts, hK⟩ := hat
  have ev : zvV G (.inr (.inr (nx h))) = .ref H.size := by rw [← zad_nx hR]; exact if_neg (by have := hR.1.1; omega)
  rw [show (nx (znh h c w w) - nx h).toNat = 1 by omega] at hc kk
  rw [show (su (znh h c w w) - su h).toNat = w.toNat by omega] at hs kk
  have hcl := zi_cl (x := w) h0 (by omega)
  have hty := zat_prim h1 h2
  refine W.newa hx hb (atype := t) (by rw [ht]; exact hts _ (zaw_ok h1 h2)) rfl hd (n := Int32.ofInt w) (rest := S.map (zvV G)) rfl (fun q => by rw [← zi_0, zi_lt ⟨by omega, by omega⟩ zr_0] at q; omega) ?_ hc (by rw [hcl]; exact hs) (fun cA kA comp f1 f2 f3 => ?_)
  · rw [hcl, ht]
    have hcb : componentBytes (Z_zat c) ≤ 8 := by rcases hty with q | q | q | q <;> rw [q] <;> decide
    calc w.toNat * componentBytes (Z_zat c) ≤ 100000 * 8 := Nat.mul_le_mul (by omega) hcb
      _ ≤ 536870912 := by decide
  rw [ht] at f1 f3
  have hAr : ArrOfT s cA (Z_zat c) := fun N z => ⟨(fun k h => by cases h), kA, f2, comp, f3⟩
  have hRA : va_RA s cA (Z_zat c) := by rcases hty with q | q | q | q <;> rw [q] at f1 ⊢ <;> exact f1
  have hrel := zR_newa (c := c) (cA := cA) hR (Or.inl ⟨h1, h2⟩) h0 hw (arrOfT_moved hK.1.symm hAr) (va_RA.moved hK.1.symm hRA) (by rcases hty with q | q | q | q <;> rw [q] <;> rfl)
  rw [hcl, ht]
  have kk := kk ls _ locs hl (by intro v hv; rcases List.mem_cons.mp hv with rfl | hv; trivial; exact hS v (by simp [hv])) hrel ⟨by rw [Array.size_push]; exact Nat.le_succ_of_le hV.1, fun q q1 q2 => (zpush_old (Nat.lt_of_lt_of_le q1 hV.1)).trans (hV.2.1 q q1 q2), hV.2.2⟩
  simp only [List.map_cons, ev] at kk
  exact kk
/-- an array in a method's state -/
theorem zArr.at {s : State} {H : Heap} {b : Int} {c : Nat} (hA : zArr G m h H b c) (hK : zK G s) {i : Int} (h0 : 0 ≤ i) (hi : i < ln h b) :
    ∃ cell : Cell, H[zad G b]? = some cell ∧ s.isArrayOf cell (Z_zat c) ∧ cell.vm ≠ .unknown ∧ ¬ (Int32.ofInt i < 0 ∨ cell.slots.size ≤ (Int32.ofInt i).toNatClampNeg) ∧ (Int32.ofInt i).toNatClampNeg = i.toNat ∧ cell.slots[(Int32.ofInt i).toNatClampNeg]? = some (zvV G (zfv (Z_zat c) (m b i))) ∧ zrg (zfv (Z_zat c) (m b i)) := by
  obtain ⟨a1, a2, cell, a3, a4, a5, a6, a7, a8, a9⟩ := hA
  have hcl := zi_cl (x := i) h0 (by omega)
  obtain ⟨g1, g2⟩ := a9 i.toNat (by omega)
  rw [show ((i.toNat : Nat) : Int) = i by omega] at g1 g2
  exact ⟨cell, a3, State.isArrayOf_alike hK.1 a4, a5, zi_in h0 (by omega) (by omega), hcl, by rw [hcl]; exact g1, g2⟩
theorem zad_ref {b : Int} (hb : b ≠ 0) : zvV G (.inr (.inr b)) = .ref (zad G b) := if_neg hb
theorem zr_ald {c : Nat} {b i : Int} (hb0 : kd h b = c) (hk0 : kd h 0 = 0 → b ≠ 0) (h0 : 0 ≤ i) (hi : i < ln h b) (hc4 : 101 ≤ c ∧ c ≤ 104)
    (hd : decode (zbytes k) pc = .ok (match c with | 101 => .iaload | 104 => .laload | _ => .baload, 1)) : zRule0 G l k pc L (.inl i :: .inr (.inr b) :: S) (pc + 1) L (zfv (Z_zat c) (m b i) :: S) m h := by
  intro p e R s mid args below meth cd H locs cells slots Q ls hat hl hS hR hV hf hlo hc hs kk
  obtain ⟨hx, hb, hml, hret, hlk, hown, hnm, hts, hK⟩ := hat
  obtain ⟨cell, g1, g2, g3, g4, g5, g6, g7⟩ := (hR.2.2.2.2.1 b c (by omega) (by omega) hb0).at hK h0 hi
  have kk := kk ls hl (by intro v hv; rcases List.mem_cons.mp hv with rfl | hv; exact g7; exact hS v (by simp [hv]))
  simp only [List.map_cons, zad_ref (G := G) (hk0 hR.2.2.1.1)] at kk ⊢
  rcases (show c = 101 ∨ c = 102 ∨ c = 103 ∨ c = 104 by omega) with q | q | q | q <;> subst q
  · exact W.iald hx hb g1 g2 g3 g4 g6 rfl rfl hd kk
  · exact W.bald hx hb g1 g2 g3 g4 g6 rfl rfl hd kk
  · exact W.zald hx hb g1 g2 g3 g4 g6 rfl rfl hd kk
  · exact W.lald hx hb g1 g2 g3 g4 g6 rfl rfl hd kk
theorem zat_obj {c : Nat} (h1 : 111 ≤ c) (h2 : c ≤ 123) : Z_zat c = .object (zcn (c - 110)) := by
  rcases (show c = 111 ∨ c = 112 ∨ c = 113 ∨ c = 114 ∨ c = 115 ∨ c = 116 ∨ c = 117 ∨ c = 118 ∨ c = 119 ∨ c = 120 ∨ c = 121 ∨ c = 122 ∨ c = 123 by omega) with h | h | h | h | h | h | h | h | h | h | h | h | h <;> subst h <;> rfl
theorem zr_aald {c : Nat} {b i : Int} (hb0 : kd h b = c) (hk0 : kd h 0 = 0 → b ≠ 0) (h0 : 0 ≤ i) (hi : i < ln h b) (h1 : 111 ≤ c) (h2 : c ≤ 123)
    (hd : decode (zbytes k) pc = .ok (.aaload, 1)) : zRule0 G l k pc L (.inl i :: .inr (.inr b) :: S) (pc + 1) L (.inr (.inr (m b i)) :: S) m h := by
  intro p e R s mid args below meth cd H locs cells slots Q ls hat hl hS hR hV hf hlo hc hs kk
  obtain ⟨hx, hb, hml, hret, hlk, hown, hnm, hts, hK⟩ := hat
  obtain ⟨cell, g1, g2, g3, g4, g5, g6, g7⟩ := (hR.2.2.2.2.1 b c (by omega) (by omega) hb0).at hK h0 hi
  have kk := kk ls hl (by intro v hv; rcases List.mem_cons.mp hv with rfl | hv; trivial; exact hS v (by simp [hv]))
  rw [zat_obj h1 h2] at g2 g6
  simp only [List.map_cons, zad_ref (G := G) (hk0 hR.2.2.1.1)] at kk ⊢
  exact W.aald hx hb g1 g2 rfl g3 g4 g6 rfl rfl hd kk
theorem zr_alen {b : Int} (hb0 : 100 < kd h b) (hk0 : kd h 0 = 0 → b ≠ 0) (hkb : ∃ c : Nat, 101 ≤ c ∧ c ≤ 123 ∧ kd h b = c)
    (hd : decode (zbytes k) pc = .ok (.arraylength, 1)) : zRule0 G l k pc L (.inr (.inr b) :: S) (pc + 1) L (.inl (ln h b) :: S) m h := by
  intro p e R s mid args below meth cd H locs cells slots Q ls hat hl hS hR hV hf hlo hc hs kk
  obtain ⟨hx, hb, hml, hret, hlk, hown, hnm, hts, hK⟩ := hat
  obtain ⟨c, c1, c2, c3⟩ := hkb
  obtain ⟨a1, a2, cell, a3, a4, a5, a6, a7, -⟩ := hR.2.2.2.2.1 b c c1 c2 c3
  have kk := kk ls hl (by intro v hv; rcases List.mem_cons.mp hv with rfl | hv; exact ⟨by omega, by omega⟩; exact hS v (by simp [hv]))
  simp only [List.map_cons, zad_ref (G := G) (hk0 hR.2.2.1.1)] at kk ⊢
  exact W.alen hx hb a3 (State.isArrayOf_alike hK.1 a4) a7 rfl rfl hd kk
end ZN

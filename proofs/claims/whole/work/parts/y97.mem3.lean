/-! SOUNDNESS: array stores, strings, statics, copies. -/
section ZO
variable {G : zG} {l : Launch} {k pc n a : Nat} {L : zL} {S : List zV} {m : zM} {h : zH}
theorem zR_ast {H H' : Heap} {b i v : Int} {c : Nat} {cell : Cell} (hR : zRel G m h H) (hb0 : kd h b = c) (hc1 : 101 ≤ c) (hc2 : c ≤ 123) (hbp : 0 < b) (h0 : 0 ≤ i) (hi : i < ln h b) (hcell : H[zad G b]? = some cell) (hr : zrg (zfv (Z_zat c) v))
    (e1 : H'[zad G b]? = some (cell.setSlot i.toNat (zvV G (zfv (Z_zat c) v)))) (e2 : H'.size = H.size) (e3 : ∀ q : Nat, q ≠ zad G b → H'[q]? = H[q]?) : zRel G (zwr m b i v) h H' := by
  refine zRel_upd hR (a := b) (by omega) hbp e2 e3 (fun b' hb' => Z_zwr_ne hb') (fun c' c1 c2 hb' => by omega) (fun c' c1 c2 hb' => ?_)
  have hcc : c' = c := by omega
  subst hcc
  obtain ⟨a1, a2, cell', a3, a4, a5, a6, a7, a8, a9⟩ := hR.2.2.2.2.1 b c' c1 c2 hb0
  cases hcell.symm.trans a3
  obtain ⟨cA, g1, g2, g3⟩ := a8 hbp
  have hnew : cell.setSlot i.toNat (zvV G (zfv (Z_zat c') v)) = arrV cA (ln h b).toNat (fun j => zvV G (zfv (Z_zat c') (zwr m b i v b j))) := by
    rw [g1, arrV_store]
    congr 1
    funext j
    rw [Z_zwr_eq]
    by_cases q : (j : Int) = i
    · rw [if_pos q, updV, if_pos (by omega)]
    · rw [if_neg q, updV, if_neg (by omega)]
  refine ⟨a1, a2, arrV cA (ln h b).toNat (fun j => zvV G (zfv (Z_zat c') (zwr m b i v b j))), by rw [e1, hnew], g2 _ _, (fun h => by cases h), by rw [arrV_size]; exact Nat.le_refl _, ?_, fun _ => ⟨cA, rfl, g2, g3⟩, fun j hj => ⟨arrV_read _ _ (by omega), ?_⟩⟩
  · rw [g1, arrV_size] at a7
    rw [arrV_size]; exact a7
  · rw [Z_zwr_eq]
    split
    · exact hr
    · exact (a9 j hj).2
theorem zr_ast {c : Nat} {b i v : Int} {u : zV} (hc4 : c = 101 ∨ (c = 103 ∧ (v = 0 ∨ v = 1)) ∨ c = 104) (hu : u = zfv (Z_zat c) v) (hb0 : kd h b = c) (hbp : 0 < b) (h0 : 0 ≤ i) (hi : i < ln h b)
    (hd : decode (zbytes k) pc = .ok (match c with | 101 => .iastore | 104 => .lastore | _ => .bastore, 1)) : zRule G l k pc L (u :: .inl i :: .inr (.inr b) :: S) m h (pc + 1) L S (zwr m b i v) h := by
  refine ⟨Int.le_refl _, Int.le_refl _, fun p e R s mid args below meth cd H locs cells slots Q ls hat hl hS hR hV hf hlo hc hs kk => ?_⟩
  simp only [Int.sub_self, Int.toNat_zero, Nat.add_zero] at hc hs kk
  obtain ⟨hx, hb, hml, hret, hlk, hown, hnm, hts, hK⟩ := hat
  subst hu
  have hrv : zrg (zfv (Z_zat c) v) := hS _ List.mem_cons_self
  obtain ⟨cell, g1, g2, g3, g4, g5, g6, g7⟩ := (hR.2.2.2.2.1 b c (by omega) (by omega) hb0).at hK h0 hi
  have fin : ∀ H' : Heap, H'[zad G b]? = some (cell.setSlot (Int32.ofInt i).toNatClampNeg (zvV G (zfv (Z_zat c) v))) → H'.size = H.size → (∀ q, q ≠ zad G b → H'[q]? = H[q]?) → W p l e R s mid args below meth cd H' (locs ++ [⟨zad G b, (Int32.ofInt i).toNatClampNeg⟩]) cells slots Q (F0 mid (pc + 1) ls (S.map (zvV G))) := by
    intro H' e1 e2 e3
    rw [g5] at e1
    exact kk ls H' _ hl (fun v hv => hS v (by simp [hv])) (zR_ast hR hb0 (by omega) (by omega) hbp h0 hi g1 hrv e1 e2 e3) (hV.put e2 e3 (zad_pos hbp))
  simp only [List.map_cons, zad_ref (G := G) (show b ≠ 0 by omega)]
  rcases hc4 with q | ⟨q, qv⟩ | q <;> subst q
  · exact W.iast hx hb g1 g2 g3 g4 rfl rfl hd fin
  · have en : narrow .boolean (.int (Int32.ofInt v)) = zvV G (zfv (Z_zat 103) v) := by rcases qv with rfl | rfl <;> rfl
    exact W.zast hx hb g1 g2 g3 g4 rfl rfl hd (fun H' e1 e2 e3 => fin H' (by rw [← en]; exact e1) e2 e3)
  · exact W.last hx hb g1 g2 g3 g4 rfl rfl hd fin
theorem zr_bast {b i v : Int} (hb0 : kd h b = 102) (hbp : 0 < b) (h0 : 0 ≤ i) (hi : i < ln h b)
    (hd : decode (zbytes k) pc = .ok (.bastore, 1)) : zRule G l k pc L (.inl v :: .inl i :: .inr (.inr b) :: S) m h (pc + 1) L S (zwr m b i (w8 v)) h := by
  refine ⟨Int.le_refl _, Int.le_refl _, fun p e R s mid args below meth cd H locs cells slots Q ls hat hl hS hR hV hf hlo hc hs kk => ?_⟩
  simp only [Int.sub_self, Int.toNat_zero, Nat.add_zero] at hc hs kk
  obtain ⟨hx, hb, hml, hret, hlk, hown, hnm, hts, hK⟩ := hat
  have hrv : zri (w8 v) := by rw [w8, ← Int8.toInt_toInt32]; exact zi_rg _
  obtain ⟨cell, g1, g2, g3, g4, g5, g6, g7⟩ := (hR.2.2.2.2.1 b 102 (by omega) (by omega) hb0).at hK h0 hi
  simp only [List.map_cons, zad_ref (G := G) (show b ≠ 0 by omega)]
  have en : narrow .byte (.int (Int32.ofInt v)) = zvV G (zfv (Z_zat 102) (w8 v)) := by
    show Value.int (Int32.ofInt v).toInt8.toInt32 = Value.int (Int32.ofInt (w8 v))
    rw [w8, ← Int8.toInt_toInt32, zi_to]
  refine W.bast hx hb g1 g2 g3 g4 rfl rfl hd (fun H' e1 e2 e3 => ?_)
  rw [g5] at e1 ⊢
  exact kk ls H' _ hl (fun v hv => hS v (by simp [hv])) (zR_ast (c := 102) hR hb0 (by omega) (by omega) hbp h0 hi g1 hrv (by rw [← en]; exact e1) e2 e3) (hV.put e2 e3 (zad_pos hbp))
theorem zr_aast (hG : zCtx G) {c : Nat} {b i v : Int} (h1 : 1 ≤ c) (h2 : c ≤ 13) (hb0 : kd h b = (110 + c : Nat)) (hbp : 0 < b) (hv0 : kd h v = c) (h0 : 0 ≤ i) (hi : i < ln h b)
    (hd : decode (zbytes k) pc = .ok (.aastore, 1)) : zRule G l k pc L (.inr (.inr v) :: .inl i :: .inr (.inr b) :: S) m h (pc + 1) L S (zwr m b i v) h := by
  refine ⟨Int.le_refl _, Int.le_refl _, fun p e R s mid args below meth cd H locs cells slots Q ls hat hl hS hR hV hf hlo hc hs kk => ?_⟩
  simp only [Int.sub_self, Int.toNat_zero, Nat.add_zero] at hc hs kk
  obtain ⟨hx, hb, hml, hret, hlk, hown, hnm, hts, hK⟩ := hat
  have hA := hR.2.2.2.2.1 b (110 + c) (by omega) (by omega) hb0
  obtain ⟨cell, g1, g2, g3, g4, g5, g6, g7⟩ := hA.at hK h0 hi
  obtain ⟨a1, a2, cell', a3, a4, a5, a6, a7, a8, a9⟩ := hA
  cases g1.symm.trans a3
  obtain ⟨cA, u1, u2, u3⟩ := a8 hbp
  have hzat : Z_zat (110 + c) = .object (zcn c) := by rw [zat_obj (by omega) (by omega), Nat.add_sub_cancel_left]
  rw [hzat] at u2 u3 g2 u1
  have u3 := va_RA.moved hK.1 u3
  obtain ⟨kA, comp, f1, f2, f3, f4⟩ := u3
  obtain ⟨vp, ⟨cv, q1, q2, q3, q4⟩, -⟩ := hR.2.2.2.1 v c h1 h2 hv0
  obtain ⟨-, hfc, kC, hkC, hkind⟩ := zKn hG hK h1 h2
  have hcomp : comp = G.2.2.1 c := Option.some.inj (f3.symm.trans hfc)
  have hcA : cell.cls = cA := by rw [u1]; rfl
  simp only [List.map_cons, zad_ref (G := G) (show b ≠ 0 by omega), zad_ref (G := G) (show v ≠ 0 by omega)]
  refine W.aast hx hb g1 (by rw [u1]; exact fun q h => by cases h) g3 (by rw [hcA]; exact f1) f2 rfl (by rw [hcomp]; exact hkC) ⟨fun q => g4 (Or.inl q), Nat.not_le.mp fun q => g4 (Or.inr q)⟩ q1 (by rw [q3]; exact fun q h => by cases h) (by rw [q2]; exact hkC) (by rw [q2, hcomp]; exact va_asg _ _) rfl rfl hd (fun H' e1 e2 e3 => ?_)
  rw [g5] at e1 ⊢
  exact kk ls H' _ hl (fun v hv => hS v (by simp [hv])) (zR_ast (c := 110 + c) hR hb0 (by omega) (by omega) hbp h0 hi g1 (by rw [hzat]; trivial) (by rw [hzat]; show H'[zad G b]? = some (cell.setSlot i.toNat (zvV G (.inr (.inr v)))); rw [zad_ref (G := G) (show v ≠ 0 by omega)]; exact e1) e2 e3) (hV.put e2 e3 (zad_pos hbp))
theorem zlinkG {o i t w : Nat} (ho : o < 20) (he : zlook (zgL o) i = some (t, w)) : zckG o (i, t, w) = true := List.all_eq_true.mp (List.all_eq_true.mp zG_ok o (List.mem_range.mpr ho)) _ (zlook_mem he)
/-- a static that nobody writes, in a method's state -/
theorem zstat {C n d : String} {v : Value} {s : State} {H : Heap} (hZ : va_Z C n d v (zA G) G.1 G.1.heap) (hK : zK G s) (hR : zRel G m h H) : va_Z C n d v (zA G) s H :=
  (va_Z.moved hK.1 hZ).kept (fun a ha hA => hR.2.1 a ha)
theorem zr_gets (hG : zCtx G) (ho : zow k < 20) {x t w : Nat} {v : zV} (he : zlook (zgL (zow k)) x = some (t, w)) (hv : (t = 3 ∧ v = .inr (.inr (-2))) ∨ (t = 4 ∧ v = .inl 1)) (hd : decode (zbytes k) pc = .ok (.getstatic x, 3)) : zRule0 G l k pc L S (pc + 3) L (v :: S) m h := by
  intro p e R s mid args below meth cd H locs cells slots Q ls hat hl hS hR hV hf hlo hc hs kk
  obtain ⟨hx, hb, hml, hret, hlk, hown, hnm, hts, hK⟩ := hat
  have hck := zlinkG ho he
  rcases hv with ⟨rfl, rfl⟩ | ⟨rfl, rfl⟩
  · have hw : Cond.fieldLink (zon (zow k)) x "EngineShed$Reader" "RANKS" "[I" ∈ zwsG := zword (by simpa [zckG] using hck) rfl
    have kk := kk ls hl (by intro v hv; rcases List.mem_cons.mp hv with rfl | hv; trivial; exact hS v hv)
    simp only [List.map_cons, zad_ref (G := G) (show (-2 : Int) ≠ 0 by omega)] at kk
    obtain ⟨cf, kf, fi, f, a, cell, z1, z2, z3, z4, z5, z6, z7, z8⟩ := zstat hG.2.1 hK hR
    exact W.gets hx hb hown (hts _ hw) z1 z2 z3 z4 z5 (fun e => by rw [e] at z6; cases z6) z7 rfl hd kk
  · have hw : Cond.fieldLink (zon (zow k)) x "java/lang/String" "COMPACT_STRINGS" "Z" ∈ zwsG := zword (by simpa [zckG] using hck) rfl
    have kk := kk ls hl (by intro v hv; rcases List.mem_cons.mp hv with rfl | hv; exact ⟨by omega, by omega⟩; exact hS v hv)
    obtain ⟨cf, kf, fi, f, a, cell, z1, z2, z3, z4, z5, z6, z7, z8⟩ := zstat hG.2.2.1 hK hR
    exact W.gets hx hb hown (hts _ hw) z1 z2 z3 z4 z5 (fun e => by rw [e] at z6; cases z6) z7 rfl hd kk
theorem zr_sldc (ho : zow k < 20) {x j w : Nat} (he : zlook (zsL (zow k)) x = some (j, w)) (hd : decode (zbytes k) pc = .ok (.ldc x, 2)) : zRule0 G l k pc L S (pc + 2) L (.inr (.inr (-3 - (j : Int))) :: S) m h := by
  intro p e R s mid args below meth cd H locs cells slots Q ls hat hl hS hR hV hf hlo hc hs kk
  obtain ⟨hx, hb, hml, hret, hlk, hown, hnm, hts, hK⟩ := hat
  have kk := kk ls hl (by intro v hv; rcases List.mem_cons.mp hv with rfl | hv; trivial; exact hS v hv)
  simp only [List.map_cons, zad_ref (G := G) (show (-3 - (j : Int)) ≠ 0 by omega)] at kk
  have hzad : zad G (-3 - (j : Int)) = G.2.1 (-3 - (j : Int)) := if_neg (by omega)
  rw [hzad] at kk
  exact va_ldcS hx hb hown (hK.2.2 _ _ _ _ ho (zlook_mem he)) hd kk
theorem zr_sfld (hG : zCtx G) (ho : zow k < 20) {x t w : Nat} {b : Int} {v : zV} (he : zlook (zgL (zow k)) x = some (t, w)) (h1 : -6 ≤ b) (h2 : b ≤ -3) (hv : (t = 1 ∧ v = .inl 0) ∨ (t = 2 ∧ v = .inr (.inr (b - 4)))) (hd : decode (zbytes k) pc = .ok (.getfield x, 3)) : zRule0 G l k pc L (.inr (.inr b) :: S) (pc + 3) L (v :: S) m h := by
  intro p e R s mid args below meth cd H locs cells slots Q ls hat hl hS hR hV hf hlo hc hs kk
  obtain ⟨hx, hb, hml, hret, hlk, hown, hnm, hts, hK⟩ := hat
  have hck := zlinkG ho he
  obtain ⟨-, s2, s3⟩ := hG.2.2.2.2.2 b h1 h2
  have hzad : zad G b = G.2.1 b := if_neg (by omega)
  simp only [List.map_cons, zad_ref (G := G) (show b ≠ 0 by omega)]
  rw [hzad]
  rcases hv with ⟨rfl, rfl⟩ | ⟨rfl, rfl⟩
  · have hw : Cond.fieldLink (zon (zow k)) x "java/lang/String" "coder" "B" ∈ zwsG := zword (by simpa [zckG] using hck) rfl
    have kk := kk ls hl (by intro v hv; rcases List.mem_cons.mp hv with rfl | hv; exact zr_0; exact hS v (by simp [hv]))
    obtain ⟨cf, kc, i, f, cell, y1, y2, y3, y4, y5, y6⟩ := (va_OF.moved hK.1 s2).kept (fun a ha hA => hR.2.1 a ha)
    exact W.getf hx hb hown (hts _ hw) y1 y2 y3 y4 y5 rfl rfl hd kk
  · have hw : Cond.fieldLink (zon (zow k)) x "java/lang/String" "value" "[B" ∈ zwsG := zword (by simpa [zckG] using hck) rfl
    have kk := kk ls hl (by intro v hv; rcases List.mem_cons.mp hv with rfl | hv; trivial; exact hS v (by simp [hv]))
    have hzad2 : zad G (b - 4) = G.2.1 (b - 4) := if_neg (by omega)
    simp only [List.map_cons, zad_ref (G := G) (show b - 4 ≠ 0 by omega), hzad2] at kk
    obtain ⟨cf, kc, i, f, cell, y1, y2, y3, y4, y5, y6⟩ := (va_OF.moved hK.1 s3).kept (fun a ha hA => hR.2.1 a ha)
    exact W.getf hx hb hown (hts _ hw) y1 y2 y3 y4 y5 rfl rfl hd kk
theorem zr_objinit (ho : zow k < 20) {x w : Nat} {v : Int} (he : zlook (zgL (zow k)) x = some (5, w)) (hv : v ≠ 0) (hw : (S.map fun v => (zvV G v).category).sum ≤ 8) (hoi : Cond.instanceMethod Lib.objectInit ∈ zwsG) (hoc : Cond.code Lib.objectInit ⟨#[0xb1]⟩ 1 none ∈ zwsG) (hd : decode (zbytes k) pc = .ok (.invokespecial x, 3)) : zRule0 G l k pc L (.inr (.inr v) :: S) (pc + 3) L S m h := by
  intro p e R s mid args below meth cd H locs cells slots Q ls hat hl hS hR hV hf hlo hc hs kk
  obtain ⟨hx, hb, hml, hret, hlk, hown, hnm, hts, hK⟩ := hat
  have hck := zlinkG ho he
  have hwd : Cond.methodLink (zon (zow k)) x Lib.objectInit ∈ zwsG := zword (by simpa [zckG] using hck) rfl
  have kk := kk ls hl (fun v hv => hS v (List.mem_cons_of_mem _ hv))
  simp only [List.map_cons, zad_ref (G := G) hv]
  exact W.objInit hx hb hown (hts _ hwd) (hts _ hoi) (hts _ hoc) rfl (hl.1.trans hml.symm) rfl hd (by omega) (by rw [List.map_map]; show 2 * 0 + (S.map fun v => (zvV G v).category).sum + 12 ≤ _; omega) kk
end ZO

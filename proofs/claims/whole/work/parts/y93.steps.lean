/-! SOUNDNESS of the steps that change nothing but locals and stack. -/
theorem zr_iconst {G : zG} {l : Launch} {k pc : Nat} {L : zL} {S : List zV} {m : zM} {h : zH} {b : Int} (hr : zri b) (hd : decode (zbytes k) pc = .ok (.iconst b, 1)) : zRule0 G l k pc L S (pc + 1) L (.inl b :: S) m h := by
  intro p e R s mid args below meth c H locs cells slots Q ls hat hl hS hR hV hf hlo hc hs kk
  obtain ⟨hx, hb, hml, hret, hlk, hown, hnm, hts, hK⟩ := hat
  refine lv_iconst hx hb hd rfl ?_
  exact kk ls hl (by intro v hv; rcases List.mem_cons.mp hv with rfl | hv; exact hr; exact hS v hv)
theorem zr_bipush {G : zG} {l : Launch} {k pc : Nat} {L : zL} {S : List zV} {m : zM} {h : zH} {b v : Int} (hr : zri b) (hv : (Int8.ofInt v).toInt32 = Int32.ofInt b) (hd : decode (zbytes k) pc = .ok (.bipush v, 2)) : zRule0 G l k pc L S (pc + 2) L (.inl b :: S) m h := by
  intro p e R s mid args below meth c H locs cells slots Q ls hat hl hS hR hV hf hlo hc hs kk
  obtain ⟨hx, hb, hml, hret, hlk, hown, hnm, hts, hK⟩ := hat
  refine lv_bipush hx hb hd hv ?_
  exact kk ls hl (by intro v hv; rcases List.mem_cons.mp hv with rfl | hv; exact hr; exact hS v hv)
theorem zr_sipush {G : zG} {l : Launch} {k pc : Nat} {L : zL} {S : List zV} {m : zM} {h : zH} {b v : Int} (hr : zri b) (hv : (Int16.ofInt v).toInt32 = Int32.ofInt b) (hd : decode (zbytes k) pc = .ok (.sipush v, 3)) : zRule0 G l k pc L S (pc + 3) L (.inl b :: S) m h := by
  intro p e R s mid args below meth c H locs cells slots Q ls hat hl hS hR hV hf hlo hc hs kk
  obtain ⟨hx, hb, hml, hret, hlk, hown, hnm, hts, hK⟩ := hat
  refine lv_sipush hx hb hd hv ?_
  exact kk ls hl (by intro v hv; rcases List.mem_cons.mp hv with rfl | hv; exact hr; exact hS v hv)
theorem zr_ldc {G : zG} {l : Launch} {k pc : Nat} {L : zL} {S : List zV} {m : zM} {h : zH} {b : Int} {x : Nat} (hr : zri b) (hw : Cond.constant (zon (zow k)) x (Int32.ofInt b) ∈ zwsG) (hd : decode (zbytes k) pc = .ok (.ldc x, 2)) : zRule0 G l k pc L S (pc + 2) L (.inl b :: S) m h := by
  intro p e R s mid args below meth c H locs cells slots Q ls hat hl hS hR hV hf hlo hc hs kk
  obtain ⟨hx, hb, hml, hret, hlk, hown, hnm, hts, hK⟩ := hat
  refine lv_ldc hx hb hown (hts _ hw) hd ?_
  exact kk ls hl (by intro v hv; rcases List.mem_cons.mp hv with rfl | hv; exact hr; exact hS v hv)
theorem zr_ldcw {G : zG} {l : Launch} {k pc : Nat} {L : zL} {S : List zV} {m : zM} {h : zH} {b : Int} {x : Nat} (hr : zri b) (hw : Cond.constant (zon (zow k)) x (Int32.ofInt b) ∈ zwsG) (hd : decode (zbytes k) pc = .ok (.ldc_w x, 3)) : zRule0 G l k pc L S (pc + 3) L (.inl b :: S) m h := by
  intro p e R s mid args below meth c H locs cells slots Q ls hat hl hS hR hV hf hlo hc hs kk
  obtain ⟨hx, hb, hml, hret, hlk, hown, hnm, hts, hK⟩ := hat
  intro T hT X
  obtain ⟨t, a1, b1⟩ := (kk ls hl (by intro v hv; rcases List.mem_cons.mp hv with rfl | hv; exact hr; exact hS v hv)) T hT X
  exact ⟨t, va_ldcwI X hx hown (hts _ hw) (g := F0 mid pc ls (S.map (zvV G))) rfl (by rw [hb]; exact hd) t a1, b1⟩
theorem zr_lconst {G : zG} {l : Launch} {k pc : Nat} {L : zL} {S : List zV} {m : zM} {h : zH} {b : Int} {x : Fin 2} (hr : Z_zrl b) (hv : Int64.ofNat (x : Nat) = Int64.ofInt b) (hd : decode (zbytes k) pc = .ok (.lconst x, 1)) : zRule0 G l k pc L S (pc + 1) L (.inr (.inl b) :: S) m h := by
  intro p e R s mid args below meth c H locs cells slots Q ls hat hl hS hR hV hf hlo hc hs kk
  obtain ⟨hx, hb, hml, hret, hlk, hown, hnm, hts, hK⟩ := hat
  refine lv_lconst hx hb hd hv ?_
  exact kk ls hl (by intro v hv; rcases List.mem_cons.mp hv with rfl | hv; exact hr; exact hS v hv)
theorem zr_ldc2 {G : zG} {l : Launch} {k pc : Nat} {L : zL} {S : List zV} {m : zM} {h : zH} {b : Int} {x : Nat} (hr : Z_zrl b) (hw : Cond.constantLong (zon (zow k)) x (Int64.ofInt b) ∈ zwsG) (hd : decode (zbytes k) pc = .ok (.ldc2_w x, 3)) : zRule0 G l k pc L S (pc + 3) L (.inr (.inl b) :: S) m h := by
  intro p e R s mid args below meth c H locs cells slots Q ls hat hl hS hR hV hf hlo hc hs kk
  obtain ⟨hx, hb, hml, hret, hlk, hown, hnm, hts, hK⟩ := hat
  refine lv_ldc2 hx hb hown (hts _ hw) hd ?_
  exact kk ls hl (by intro v hv; rcases List.mem_cons.mp hv with rfl | hv; exact hr; exact hS v hv)
theorem zr_iload {G : zG} {l : Launch} {k pc a : Nat} {L : zL} {S : List zV} {m : zM} {h : zH} {b : Int} (hg : zget L a = some (.inl b)) (hd : decode (zbytes k) pc = .ok (.iload a, 2)) : zRule0 G l k pc L S (pc + 2) L (.inl b :: S) m h := by
  intro p e R s mid args below meth c H locs cells slots Q ls hat hl hS hR hV hf hlo hc hs kk
  obtain ⟨hx, hb, hml, hret, hlk, hown, hnm, hts, hK⟩ := hat
  obtain ⟨hz, hr⟩ := hl.2.2.2 a _ hg
  refine lv_iload hx hb hd hz ?_
  exact kk ls hl (by intro v hv; rcases List.mem_cons.mp hv with rfl | hv; exact hr; exact hS v hv)
theorem zr_iload_n {G : zG} {l : Launch} {k pc a : Nat} {L : zL} {S : List zV} {m : zM} {h : zH} {b : Int} (hg : zget L a = some (.inl b)) {x : Fin 4} (hxa : x.val = a) (hd : decode (zbytes k) pc = .ok (.iload_n x, 1)) : zRule0 G l k pc L S (pc + 1) L (.inl b :: S) m h := by
  intro p e R s mid args below meth c H locs cells slots Q ls hat hl hS hR hV hf hlo hc hs kk
  obtain ⟨hx, hb, hml, hret, hlk, hown, hnm, hts, hK⟩ := hat
  obtain ⟨hz, hr⟩ := hl.2.2.2 a _ hg
  refine lv_iload_n hx hb hd hxa hz ?_
  exact kk ls hl (by intro v hv; rcases List.mem_cons.mp hv with rfl | hv; exact hr; exact hS v hv)
theorem zr_lload {G : zG} {l : Launch} {k pc a : Nat} {L : zL} {S : List zV} {m : zM} {h : zH} {b : Int} (hg : zget L a = some (.inr (.inl b))) (hd : decode (zbytes k) pc = .ok (.lload a, 2)) : zRule0 G l k pc L S (pc + 2) L (.inr (.inl b) :: S) m h := by
  intro p e R s mid args below meth c H locs cells slots Q ls hat hl hS hR hV hf hlo hc hs kk
  obtain ⟨hx, hb, hml, hret, hlk, hown, hnm, hts, hK⟩ := hat
  obtain ⟨hz, hr⟩ := hl.2.2.2 a _ hg
  refine lv_lload hx hb hd hz ?_
  exact kk ls hl (by intro v hv; rcases List.mem_cons.mp hv with rfl | hv; exact hr; exact hS v hv)
theorem zr_lload_n {G : zG} {l : Launch} {k pc a : Nat} {L : zL} {S : List zV} {m : zM} {h : zH} {b : Int} (hg : zget L a = some (.inr (.inl b))) {x : Fin 4} (hxa : x.val = a) (hd : decode (zbytes k) pc = .ok (.lload_n x, 1)) : zRule0 G l k pc L S (pc + 1) L (.inr (.inl b) :: S) m h := by
  intro p e R s mid args below meth c H locs cells slots Q ls hat hl hS hR hV hf hlo hc hs kk
  obtain ⟨hx, hb, hml, hret, hlk, hown, hnm, hts, hK⟩ := hat
  obtain ⟨hz, hr⟩ := hl.2.2.2 a _ hg
  refine lv_lload_n hx hb hd hxa hz ?_
  exact kk ls hl (by intro v hv; rcases List.mem_cons.mp hv with rfl | hv; exact hr; exact hS v hv)
theorem zr_aload {G : zG} {l : Launch} {k pc a : Nat} {L : zL} {S : List zV} {m : zM} {h : zH} {b : Int} (hg : zget L a = some (.inr (.inr b))) (hd : decode (zbytes k) pc = .ok (.aload a, 2)) : zRule0 G l k pc L S (pc + 2) L (.inr (.inr b) :: S) m h := by
  intro p e R s mid args below meth c H locs cells slots Q ls hat hl hS hR hV hf hlo hc hs kk
  obtain ⟨hx, hb, hml, hret, hlk, hown, hnm, hts, hK⟩ := hat
  obtain ⟨hz, hr⟩ := hl.2.2.2 a _ hg
  have kk := kk ls hl (by intro v hv; rcases List.mem_cons.mp hv with rfl | hv; exact hr; exact hS v hv)
  by_cases hb0 : b = 0
  · have e : zvV G (.inr (.inr b)) = .null := if_pos hb0
    rw [e] at hz
    simp only [List.map_cons, e] at kk
    exact lv_aloadN hx hb hd hz kk
  · have e : zvV G (.inr (.inr b)) = .ref (zad G b) := if_neg hb0
    rw [e] at hz
    simp only [List.map_cons, e] at kk
    exact lv_aload hx hb hd hz kk
theorem zr_aload_n {G : zG} {l : Launch} {k pc a : Nat} {L : zL} {S : List zV} {m : zM} {h : zH} {b : Int} (hg : zget L a = some (.inr (.inr b))) {x : Fin 4} (hxa : x.val = a) (hd : decode (zbytes k) pc = .ok (.aload_n x, 1)) : zRule0 G l k pc L S (pc + 1) L (.inr (.inr b) :: S) m h := by
  intro p e R s mid args below meth c H locs cells slots Q ls hat hl hS hR hV hf hlo hc hs kk
  obtain ⟨hx, hb, hml, hret, hlk, hown, hnm, hts, hK⟩ := hat
  obtain ⟨hz, hr⟩ := hl.2.2.2 a _ hg
  have kk := kk ls hl (by intro v hv; rcases List.mem_cons.mp hv with rfl | hv; exact hr; exact hS v hv)
  by_cases hb0 : b = 0
  · have e : zvV G (.inr (.inr b)) = .null := if_pos hb0
    rw [e] at hz
    simp only [List.map_cons, e] at kk
    exact lv_aload_nN hx hb hd hxa hz kk
  · have e : zvV G (.inr (.inr b)) = .ref (zad G b) := if_neg hb0
    rw [e] at hz
    simp only [List.map_cons, e] at kk
    exact lv_aload_n hx hb hd hxa hz kk
theorem zlR_has {G : zG} {ls : Array Slot} {n : Nat} {L : zL} (h : zlR G ls n L) {i : Nat} {v : zV} (hg : zget L i = some v) : lv_has ls n [(i, zvV G v)] := by
  refine ⟨h.1, h.2.1, fun q hq => ?_⟩
  rw [List.mem_singleton] at hq
  subst hq
  exact (h.2.2.2 i v hg).1
theorem zcat1 {G : zG} {v : zV} (h : zone v = true) : (zvV G v).category = 1 := by
  obtain x | x | x := v
  · rfl
  · cases h
  · unfold zvV
    simp only []
    split <;> rfl
/-- a store of one slot, as the machine does it and as the tables do it -/
theorem zst_one {G : zG} {ls : Array Slot} {n a : Nat} {L : zL} {v : zV} (h : zlR G ls n L) (ha : a < n) (hr : zrg v) (h1 : zone v = true) : ∃ ls', storeLocals ls a (zvV G v) = some ls' ∧ zlR G ls' n (zset (zprv L a) a (some v)) := by
  have hc := zcat1 (G := G) h1
  obtain ⟨ls', e', h'⟩ := lv_store1 (l := []) (v := zvV G v) ⟨h.1, h.2.1, fun q hq => by cases hq⟩ ha hc
  refine ⟨ls', e', h'.1, h'.2.1, by rw [zset_length, zprv_length]; exact h.2.2.1, fun i w hw => ?_⟩
  rw [zget_zset, zprv_length, h.2.2.1] at hw
  by_cases hi : i = a
  · subst hi
    rw [if_pos ⟨rfl, ha⟩] at hw
    cases hw
    exact ⟨h'.2.2 (i, zvV G v) List.mem_cons_self, hr⟩
  · rw [if_neg (fun q => hi q.1), zget_zprv] at hw
    obtain ⟨hw, hnl⟩ := hw
    obtain ⟨ls2, e2, h2⟩ := lv_store1 (l := [(i, zvV G w)]) (v := zvV G v) (zlR_has h hw) ha hc
    cases e'.symm.trans e2
    refine ⟨h2.2.2 (i, zvV G w) ?_, (h.2.2.2 i w hw).2⟩
    refine List.mem_cons_of_mem _ (List.mem_filter.mpr ⟨List.mem_cons_self, ?_⟩)
    have h3 : ¬ (i + 1 = a ∧ (zvV G w).category = 2) := by
      rintro ⟨q1, q2⟩
      refine hnl ⟨q1, ?_⟩
      obtain x | x | x := w
      · cases q2
      · exact ⟨x, rfl⟩
      · rw [zcat1 (G := G) (v := .inr (.inr x)) rfl] at q2; cases q2
    simp only [Bool.and_eq_true, Bool.not_eq_true', beq_eq_false_iff_ne, Bool.and_eq_false_iff, beq_iff_eq]
    refine ⟨hi, ?_⟩
    by_cases q : i + 1 = a
    · exact Or.inr (fun q2 => h3 ⟨q, q2⟩)
    · exact Or.inl q
theorem zr_istore {G : zG} {l : Launch} {k pc a : Nat} {L : zL} {S : List zV} {m : zM} {h : zH} {b : Int} (ha : a < zmaxl k) (hd : decode (zbytes k) pc = .ok (.istore a, 2)) : zRule0 G l k pc L (.inl b :: S) (pc + 2) (zset (zprv L a) a (some (.inl b))) S m h := by
  intro p e R s mid args below meth c H locs cells slots Q ls hat hl hS hR hV hf hlo hc hs kk
  obtain ⟨hx, hb, hml, hret, hlk, hown, hnm, hts, hK⟩ := hat
  obtain ⟨ls', e', h'⟩ := zst_one hl ha (hS _ List.mem_cons_self) rfl
  have kk := kk ls' h' (fun v hv => hS v (List.mem_cons_of_mem _ hv))
  intro T hT X
  obtain ⟨t, a1, b1⟩ := kk T hT X
  refine ⟨t, ?_, b1⟩
  have e' : storeLocals ls a (.int (Int32.ofInt b)) = some ls' := e'
  show Steps p.tables e below (T.setTop (F0 mid pc ls (.int (Int32.ofInt b) :: S.map (zvV G)))) t
  jvm_step X.here [X.here.top, ↓top_set X.here.top, hx, hb, hd, e']
  exact a1
theorem zr_istore_n {G : zG} {l : Launch} {k pc a : Nat} {L : zL} {S : List zV} {m : zM} {h : zH} {b : Int} (ha : a < zmaxl k) {x : Fin 4} (hxa : x.val = a) (hd : decode (zbytes k) pc = .ok (.istore_n x, 1)) : zRule0 G l k pc L (.inl b :: S) (pc + 1) (zset (zprv L a) a (some (.inl b))) S m h := by
  intro p e R s mid args below meth c H locs cells slots Q ls hat hl hS hR hV hf hlo hc hs kk
  obtain ⟨hx, hb, hml, hret, hlk, hown, hnm, hts, hK⟩ := hat
  obtain ⟨ls', e', h'⟩ := zst_one hl ha (hS _ List.mem_cons_self) rfl
  have kk := kk ls' h' (fun v hv => hS v (List.mem_cons_of_mem _ hv))
  intro T hT X
  obtain ⟨t, a1, b1⟩ := kk T hT X
  refine ⟨t, ?_, b1⟩
  have e' : storeLocals ls x.val (.int (Int32.ofInt b)) = some ls' := hxa ▸ e'
  show Steps p.tables e below (T.setTop (F0 mid pc ls (.int (Int32.ofInt b) :: S.map (zvV G)))) t
  jvm_step X.here [X.here.top, ↓top_set X.here.top, hx, hb, hd, e']
  exact a1
theorem zr_astore {G : zG} {l : Launch} {k pc a : Nat} {L : zL} {S : List zV} {m : zM} {h : zH} {b : Int} (ha : a < zmaxl k) (hd : decode (zbytes k) pc = .ok (.astore a, 2)) : zRule0 G l k pc L (.inr (.inr b) :: S) (pc + 2) (zset (zprv L a) a (some (.inr (.inr b)))) S m h := by
  intro p e R s mid args below meth c H locs cells slots Q ls hat hl hS hR hV hf hlo hc hs kk
  obtain ⟨hx, hb, hml, hret, hlk, hown, hnm, hts, hK⟩ := hat
  obtain ⟨ls', e', h'⟩ := zst_one hl ha (hS _ List.mem_cons_self) rfl
  have kk := kk ls' h' (fun v hv => hS v (List.mem_cons_of_mem _ hv))
  intro T hT X
  obtain ⟨t, a1, b1⟩ := kk T hT X
  refine ⟨t, ?_, b1⟩
  show Steps p.tables e below (T.setTop (F0 mid pc ls (zvV G (.inr (.inr b)) :: S.map (zvV G)))) t
  by_cases hb0 : b = 0
  · have e : zvV G (.inr (.inr b)) = .null := if_pos hb0
    rw [e] at e' ⊢
    have e' : storeLocals ls a .null = some ls' := e'
    jvm_step X.here [X.here.top, ↓top_set X.here.top, hx, hb, hd, e', Value.isRef]
    exact a1
  · have e : zvV G (.inr (.inr b)) = .ref (zad G b) := if_neg hb0
    rw [e] at e' ⊢
    have e' : storeLocals ls a (.ref (zad G b)) = some ls' := e'
    jvm_step X.here [X.here.top, ↓top_set X.here.top, hx, hb, hd, e', Value.isRef]
    exact a1
theorem zr_astore_n {G : zG} {l : Launch} {k pc a : Nat} {L : zL} {S : List zV} {m : zM} {h : zH} {b : Int} (ha : a < zmaxl k) {x : Fin 4} (hxa : x.val = a) (hd : decode (zbytes k) pc = .ok (.astore_n x, 1)) : zRule0 G l k pc L (.inr (.inr b) :: S) (pc + 1) (zset (zprv L a) a (some (.inr (.inr b)))) S m h := by
  intro p e R s mid args below meth c H locs cells slots Q ls hat hl hS hR hV hf hlo hc hs kk
  obtain ⟨hx, hb, hml, hret, hlk, hown, hnm, hts, hK⟩ := hat
  obtain ⟨ls', e', h'⟩ := zst_one hl ha (hS _ List.mem_cons_self) rfl
  have kk := kk ls' h' (fun v hv => hS v (List.mem_cons_of_mem _ hv))
  intro T hT X
  obtain ⟨t, a1, b1⟩ := kk T hT X
  refine ⟨t, ?_, b1⟩
  show Steps p.tables e below (T.setTop (F0 mid pc ls (zvV G (.inr (.inr b)) :: S.map (zvV G)))) t
  by_cases hb0 : b = 0
  · have e : zvV G (.inr (.inr b)) = .null := if_pos hb0
    rw [e] at e' ⊢
    have e' : storeLocals ls x.val .null = some ls' := hxa ▸ e'
    jvm_step X.here [X.here.top, ↓top_set X.here.top, hx, hb, hd, e', Value.isRef]
    exact a1
  · have e : zvV G (.inr (.inr b)) = .ref (zad G b) := if_neg hb0
    rw [e] at e' ⊢
    have e' : storeLocals ls x.val (.ref (zad G b)) = some ls' := hxa ▸ e'
    jvm_step X.here [X.here.top, ↓top_set X.here.top, hx, hb, hd, e', Value.isRef]
    exact a1

/-! SOUNDNESS of the steps that change nothing but locals and stack: arithmetic, branches. -/
theorem zr_iinc {G : zG} {l : Launch} {k pc a : Nat} {L : zL} {S : List zV} {m : zM} {h : zH} {b x : Int} (hg : zget L a = some (.inl x)) (ha : a < zmaxl k) (hd : decode (zbytes k) pc = .ok (.iinc a b, 3)) : zRule0 G l k pc L S (pc + 3) (zset (zprv L a) a (some (.inl (w32 (x + b))))) S m h := by
  intro p e R s mid args below meth c H locs cells slots Q ls hat hl hS hR hV hf hlo hc hs kk
  obtain ⟨hx, hb, hml, hret, hlk, hown, hnm, hts, hK⟩ := hat
  obtain ⟨hz, hr⟩ := hl.2.2.2 a _ hg
  obtain ⟨ls', e', h'⟩ := zst_one (v := .inl (w32 (x + b))) hl ha (zi_rg _) rfl
  have kk := kk ls' h' hS
  intro T hT X
  obtain ⟨t, a1, b1⟩ := kk T hT X
  refine ⟨t, ?_, b1⟩
  have e' : storeLocals ls a (.int (Int32.ofInt x + Int32.ofInt b)) = some ls' := by
    rw [← Int32.ofInt_add]
    have e2 : zvV G (.inl (w32 (x + b))) = .int (Int32.ofInt (x + b)) := by show Value.int _ = _; rw [w32, zi_to]
    rw [← e2]; exact e'
  have hz : ls[a]? = some (.val (.int (Int32.ofInt x))) := hz
  jvm_step X.here [X.here.top, ↓top_set X.here.top, hx, hb, hd, hz, e']
  exact a1
theorem zr_iadd {G : zG} {l : Launch} {k pc : Nat} {L : zL} {S : List zV} {m : zM} {h : zH} {x y : Int} (hd : decode (zbytes k) pc = .ok (.iadd, 1)) : zRule0 G l k pc L (.inl y :: .inl x :: S) (pc + 1) L (.inl (zbin 0 x y) :: S) m h := by
  intro p e R s mid args below meth c H locs cells slots Q ls hat hl hS hR hV hf hlo hc hs kk
  obtain ⟨hx, hb, hml, hret, hlk, hown, hnm, hts, hK⟩ := hat
  have kk := kk ls hl (by intro v hv; rcases List.mem_cons.mp hv with rfl | hv; exact zb_rg _ _ _; exact hS v (by simp [hv]))
  have e : zvV G (.inl (zbin 0 x y)) = .int (Int32.ofInt x + Int32.ofInt y) := by show Value.int (Int32.ofInt (w32 _)) = _; rw [w32, zi_to, Int32.ofInt_add]
  simp only [List.map_cons, e] at kk
  exact lv_iadd hx hb hd kk
theorem zr_isub {G : zG} {l : Launch} {k pc : Nat} {L : zL} {S : List zV} {m : zM} {h : zH} {x y : Int} (hd : decode (zbytes k) pc = .ok (.isub, 1)) : zRule0 G l k pc L (.inl y :: .inl x :: S) (pc + 1) L (.inl (zbin 1 x y) :: S) m h := by
  intro p e R s mid args below meth c H locs cells slots Q ls hat hl hS hR hV hf hlo hc hs kk
  obtain ⟨hx, hb, hml, hret, hlk, hown, hnm, hts, hK⟩ := hat
  have kk := kk ls hl (by intro v hv; rcases List.mem_cons.mp hv with rfl | hv; exact zb_rg _ _ _; exact hS v (by simp [hv]))
  have e : zvV G (.inl (zbin 1 x y)) = .int (Int32.ofInt x - Int32.ofInt y) := by show Value.int (Int32.ofInt (w32 _)) = _; rw [w32, zi_to, Int32.ofInt_sub]
  simp only [List.map_cons, e] at kk
  exact lv_isub hx hb hd kk
theorem zr_imul {G : zG} {l : Launch} {k pc : Nat} {L : zL} {S : List zV} {m : zM} {h : zH} {x y : Int} (hd : decode (zbytes k) pc = .ok (.imul, 1)) : zRule0 G l k pc L (.inl y :: .inl x :: S) (pc + 1) L (.inl (zbin 2 x y) :: S) m h := by
  intro p e R s mid args below meth c H locs cells slots Q ls hat hl hS hR hV hf hlo hc hs kk
  obtain ⟨hx, hb, hml, hret, hlk, hown, hnm, hts, hK⟩ := hat
  have kk := kk ls hl (by intro v hv; rcases List.mem_cons.mp hv with rfl | hv; exact zb_rg _ _ _; exact hS v (by simp [hv]))
  have e : zvV G (.inl (zbin 2 x y)) = .int (Int32.ofInt x * Int32.ofInt y) := by show Value.int (Int32.ofInt (w32 _)) = _; rw [w32, zi_to, Int32.ofInt_mul]
  simp only [List.map_cons, e] at kk
  exact lv_imul hx hb hd kk
theorem zr_iand {G : zG} {l : Launch} {k pc : Nat} {L : zL} {S : List zV} {m : zM} {h : zH} {x y : Int} (hd : decode (zbytes k) pc = .ok (.iand, 1)) : zRule0 G l k pc L (.inl y :: .inl x :: S) (pc + 1) L (.inl (zbin 3 x y) :: S) m h := by
  intro p e R s mid args below meth c H locs cells slots Q ls hat hl hS hR hV hf hlo hc hs kk
  obtain ⟨hx, hb, hml, hret, hlk, hown, hnm, hts, hK⟩ := hat
  have kk := kk ls hl (by intro v hv; rcases List.mem_cons.mp hv with rfl | hv; exact zb_rg _ _ _; exact hS v (by simp [hv]))
  have e : zvV G (.inl (zbin 3 x y)) = .int (Int32.ofInt x &&& Int32.ofInt y) := by show Value.int (Int32.ofInt (Int32.toInt _)) = _; rw [zi_to]
  simp only [List.map_cons, e] at kk
  exact lv_iand hx hb hd kk
theorem zr_ior {G : zG} {l : Launch} {k pc : Nat} {L : zL} {S : List zV} {m : zM} {h : zH} {x y : Int} (hd : decode (zbytes k) pc = .ok (.ior, 1)) : zRule0 G l k pc L (.inl y :: .inl x :: S) (pc + 1) L (.inl (zbin 4 x y) :: S) m h := by
  intro p e R s mid args below meth c H locs cells slots Q ls hat hl hS hR hV hf hlo hc hs kk
  obtain ⟨hx, hb, hml, hret, hlk, hown, hnm, hts, hK⟩ := hat
  have kk := kk ls hl (by intro v hv; rcases List.mem_cons.mp hv with rfl | hv; exact zb_rg _ _ _; exact hS v (by simp [hv]))
  have e : zvV G (.inl (zbin 4 x y)) = .int (Int32.ofInt x ||| Int32.ofInt y) := by show Value.int (Int32.ofInt (Int32.toInt _)) = _; rw [zi_to]
  simp only [List.map_cons, e] at kk
  exact lv_ior hx hb hd kk
theorem zr_ixor {G : zG} {l : Launch} {k pc : Nat} {L : zL} {S : List zV} {m : zM} {h : zH} {x y : Int} (hd : decode (zbytes k) pc = .ok (.ixor, 1)) : zRule0 G l k pc L (.inl y :: .inl x :: S) (pc + 1) L (.inl (zbin 5 x y) :: S) m h := by
  intro p e R s mid args below meth c H locs cells slots Q ls hat hl hS hR hV hf hlo hc hs kk
  obtain ⟨hx, hb, hml, hret, hlk, hown, hnm, hts, hK⟩ := hat
  have kk := kk ls hl (by intro v hv; rcases List.mem_cons.mp hv with rfl | hv; exact zb_rg _ _ _; exact hS v (by simp [hv]))
  have e : zvV G (.inl (zbin 5 x y)) = .int (Int32.ofInt x ^^^ Int32.ofInt y) := by show Value.int (Int32.ofInt (Int32.toInt _)) = _; rw [zi_to]
  simp only [List.map_cons, e] at kk
  exact lv_ixor hx hb hd kk
theorem zr_ishl {G : zG} {l : Launch} {k pc : Nat} {L : zL} {S : List zV} {m : zM} {h : zH} {x y : Int} (hd : decode (zbytes k) pc = .ok (.ishl, 1)) : zRule0 G l k pc L (.inl y :: .inl x :: S) (pc + 1) L (.inl (zbin 6 x y) :: S) m h := by
  intro p e R s mid args below meth c H locs cells slots Q ls hat hl hS hR hV hf hlo hc hs kk
  obtain ⟨hx, hb, hml, hret, hlk, hown, hnm, hts, hK⟩ := hat
  have kk := kk ls hl (by intro v hv; rcases List.mem_cons.mp hv with rfl | hv; exact zb_rg _ _ _; exact hS v (by simp [hv]))
  have e : zvV G (.inl (zbin 6 x y)) = .int (Int32.ofInt x <<< (Int32.ofInt y &&& 31)) := by show Value.int (Int32.ofInt (Int32.toInt _)) = _; rw [zi_to]
  simp only [List.map_cons, e] at kk
  exact lv_ishl hx hb hd kk
theorem zr_ishr {G : zG} {l : Launch} {k pc : Nat} {L : zL} {S : List zV} {m : zM} {h : zH} {x y : Int} (hd : decode (zbytes k) pc = .ok (.ishr, 1)) : zRule0 G l k pc L (.inl y :: .inl x :: S) (pc + 1) L (.inl (zbin 7 x y) :: S) m h := by
  intro p e R s mid args below meth c H locs cells slots Q ls hat hl hS hR hV hf hlo hc hs kk
  obtain ⟨hx, hb, hml, hret, hlk, hown, hnm, hts, hK⟩ := hat
  have kk := kk ls hl (by intro v hv; rcases List.mem_cons.mp hv with rfl | hv; exact zb_rg _ _ _; exact hS v (by simp [hv]))
  have e : zvV G (.inl (zbin 7 x y)) = .int (Int32.ofInt x >>> (Int32.ofInt y &&& 31)) := by show Value.int (Int32.ofInt (Int32.toInt _)) = _; rw [zi_to]
  simp only [List.map_cons, e] at kk
  exact lv_ishr hx hb hd kk
theorem zr_iushr {G : zG} {l : Launch} {k pc : Nat} {L : zL} {S : List zV} {m : zM} {h : zH} {x y : Int} (hd : decode (zbytes k) pc = .ok (.iushr, 1)) : zRule0 G l k pc L (.inl y :: .inl x :: S) (pc + 1) L (.inl (zbin 8 x y) :: S) m h := by
  intro p e R s mid args below meth c H locs cells slots Q ls hat hl hS hR hV hf hlo hc hs kk
  obtain ⟨hx, hb, hml, hret, hlk, hown, hnm, hts, hK⟩ := hat
  have kk := kk ls hl (by intro v hv; rcases List.mem_cons.mp hv with rfl | hv; exact zb_rg _ _ _; exact hS v (by simp [hv]))
  have e : zvV G (.inl (zbin 8 x y)) = .int (((Int32.ofInt x).toUInt32 >>> ((Int32.ofInt y).toUInt32 &&& Int32.toUInt32 31)).toInt32) := by show Value.int (Int32.ofInt (Int32.toInt _)) = _; rw [zi_to]
  simp only [List.map_cons, e] at kk
  exact lv_iushr hx hb hd rfl kk
theorem zr_idiv {G : zG} {l : Launch} {k pc : Nat} {L : zL} {S : List zV} {m : zM} {h : zH} {x y : Int} (hy : y ≠ 0) (hd : decode (zbytes k) pc = .ok (.idiv, 1)) : zRule0 G l k pc L (.inl y :: .inl x :: S) (pc + 1) L (.inl (zdiv x y) :: S) m h := by
  intro p e R s mid args below meth c H locs cells slots Q ls hat hl hS hR hV hf hlo hc hs kk
  obtain ⟨hx, hb, hml, hret, hlk, hown, hnm, hts, hK⟩ := hat
  have kk := kk ls hl (by intro v hv; rcases List.mem_cons.mp hv with rfl | hv; exact zi_rg _; exact hS v (by simp [hv]))
  have e : zvV G (.inl (zdiv x y)) = .int (Int32.ofInt x / Int32.ofInt y) := by show Value.int (Int32.ofInt (Int32.toInt _)) = _; rw [zi_to]
  simp only [List.map_cons, e] at kk
  have hyr : zri y := hS (.inl y) List.mem_cons_self
  exact lv_idiv hx hb hd (fun q => hy ((zi_eq hyr zr_0).mp q)) kk
theorem zr_irem {G : zG} {l : Launch} {k pc : Nat} {L : zL} {S : List zV} {m : zM} {h : zH} {x y : Int} (hy : y ≠ 0) (hd : decode (zbytes k) pc = .ok (.irem, 1)) : zRule0 G l k pc L (.inl y :: .inl x :: S) (pc + 1) L (.inl (zrem x y) :: S) m h := by
  intro p e R s mid args below meth c H locs cells slots Q ls hat hl hS hR hV hf hlo hc hs kk
  obtain ⟨hx, hb, hml, hret, hlk, hown, hnm, hts, hK⟩ := hat
  have kk := kk ls hl (by intro v hv; rcases List.mem_cons.mp hv with rfl | hv; exact zi_rg _; exact hS v (by simp [hv]))
  have e : zvV G (.inl (zrem x y)) = .int (Int32.ofInt x - Int32.ofInt x / Int32.ofInt y * Int32.ofInt y) := by show Value.int (Int32.ofInt (Int32.toInt _)) = _; rw [zi_to]
  simp only [List.map_cons, e] at kk
  have hyr : zri y := hS (.inl y) List.mem_cons_self
  exact lv_irem hx hb hd (fun q => hy ((zi_eq hyr zr_0).mp q)) kk
theorem zr_ineg {G : zG} {l : Launch} {k pc : Nat} {L : zL} {S : List zV} {m : zM} {h : zH} {x : Int} (hd : decode (zbytes k) pc = .ok (.ineg, 1)) : zRule0 G l k pc L (.inl x :: S) (pc + 1) L (.inl (w32 (-x)) :: S) m h := by
  intro p e R s mid args below meth c H locs cells slots Q ls hat hl hS hR hV hf hlo hc hs kk
  obtain ⟨hx, hb, hml, hret, hlk, hown, hnm, hts, hK⟩ := hat
  have kk := kk ls hl (by intro v hv; rcases List.mem_cons.mp hv with rfl | hv; exact zi_rg _; exact hS v (by simp [hv]))
  have e : zvV G (.inl (w32 (-x))) = .int (-Int32.ofInt x) := by show Value.int (Int32.ofInt (w32 _)) = _; rw [w32, zi_to, Int32.ofInt_neg]
  simp only [List.map_cons, e] at kk
  exact lv_ineg hx hb hd kk
theorem zr_i2b {G : zG} {l : Launch} {k pc : Nat} {L : zL} {S : List zV} {m : zM} {h : zH} {x : Int} (hd : decode (zbytes k) pc = .ok (.i2b, 1)) : zRule0 G l k pc L (.inl x :: S) (pc + 1) L (.inl (w8 x) :: S) m h := by
  intro p e R s mid args below meth c H locs cells slots Q ls hat hl hS hR hV hf hlo hc hs kk
  obtain ⟨hx, hb, hml, hret, hlk, hown, hnm, hts, hK⟩ := hat
  have kk := kk ls hl (by intro v hv; rcases List.mem_cons.mp hv with rfl | hv; exact (by show zri (w8 x); rw [w8, ← Int8.toInt_toInt32]; exact zi_rg _); exact hS v (by simp [hv]))
  have e : zvV G (.inl (w8 x)) = .int ((Int32.ofInt x).toInt8.toInt32) := by show Value.int (Int32.ofInt (w8 _)) = _; rw [w8, ← Int8.toInt_toInt32, zi_to]
  simp only [List.map_cons, e] at kk
  exact lv_i2b hx hb hd rfl kk
theorem zr_i2c {G : zG} {l : Launch} {k pc : Nat} {L : zL} {S : List zV} {m : zM} {h : zH} {x : Int} (hd : decode (zbytes k) pc = .ok (.i2c, 1)) : zRule0 G l k pc L (.inl x :: S) (pc + 1) L (.inl (w16 x) :: S) m h := by
  intro p e R s mid args below meth c H locs cells slots Q ls hat hl hS hR hV hf hlo hc hs kk
  obtain ⟨hx, hb, hml, hret, hlk, hown, hnm, hts, hK⟩ := hat
  have kk := kk ls hl (by intro v hv; rcases List.mem_cons.mp hv with rfl | hv; exact zi_rg _; exact hS v (by simp [hv]))
  have e : zvV G (.inl (w16 x)) = .int (((Int32.ofInt x).toUInt32 % 65536).toInt32) := by show Value.int (Int32.ofInt (w16 _)) = _; rw [w16, zi_to]
  simp only [List.map_cons, e] at kk
  exact lv_i2c hx hb hd rfl kk
theorem zr_i2l {G : zG} {l : Launch} {k pc : Nat} {L : zL} {S : List zV} {m : zM} {h : zH} {x : Int} (hd : decode (zbytes k) pc = .ok (.i2l, 1)) : zRule0 G l k pc L (.inl x :: S) (pc + 1) L (.inr (.inl x) :: S) m h := by
  intro p e R s mid args below meth c H locs cells slots Q ls hat hl hS hR hV hf hlo hc hs kk
  obtain ⟨hx, hb, hml, hret, hlk, hown, hnm, hts, hK⟩ := hat
  have hxr : zri x := hS (.inl x) List.mem_cons_self
  have kk := kk ls hl (by intro v hv; rcases List.mem_cons.mp hv with rfl | hv; exact ⟨by have := hxr.1; omega, by have := hxr.2; omega⟩; exact hS v (by simp [hv]))
  refine lv_i2l hx hb hd (v := Int64.ofInt x) ?_ kk
  apply Int64.toInt_inj.mp
  rw [Int32.toInt_toInt64, zi_of hxr, zl_of ⟨by have := hxr.1; omega, by have := hxr.2; omega⟩]
theorem zr_ladd {G : zG} {l : Launch} {k pc : Nat} {L : zL} {S : List zV} {m : zM} {h : zH} {x y : Int} (hd : decode (zbytes k) pc = .ok (.ladd, 1)) : zRule0 G l k pc L (.inr (.inl y) :: .inr (.inl x) :: S) (pc + 1) L (.inr (.inl (w64 (x + y))) :: S) m h := by
  intro p e R s mid args below meth c H locs cells slots Q ls hat hl hS hR hV hf hlo hc hs kk
  obtain ⟨hx, hb, hml, hret, hlk, hown, hnm, hts, hK⟩ := hat
  have kk := kk ls hl (by intro v hv; rcases List.mem_cons.mp hv with rfl | hv; exact zl_rg _; exact hS v (by simp [hv]))
  have e : zvV G (.inr (.inl (w64 (x + y)))) = .long (Int64.ofInt x + Int64.ofInt y) := by show Value.long (Int64.ofInt (w64 _)) = _; rw [w64, zl_to, Int64.ofInt_add]
  simp only [List.map_cons, e] at kk
  exact lv_ladd hx hb hd kk
theorem zr_lmul {G : zG} {l : Launch} {k pc : Nat} {L : zL} {S : List zV} {m : zM} {h : zH} {x y : Int} (hd : decode (zbytes k) pc = .ok (.lmul, 1)) : zRule0 G l k pc L (.inr (.inl y) :: .inr (.inl x) :: S) (pc + 1) L (.inr (.inl (w64 (x * y))) :: S) m h := by
  intro p e R s mid args below meth c H locs cells slots Q ls hat hl hS hR hV hf hlo hc hs kk
  obtain ⟨hx, hb, hml, hret, hlk, hown, hnm, hts, hK⟩ := hat
  have kk := kk ls hl (by intro v hv; rcases List.mem_cons.mp hv with rfl | hv; exact zl_rg _; exact hS v (by simp [hv]))
  have e : zvV G (.inr (.inl (w64 (x * y)))) = .long (Int64.ofInt x * Int64.ofInt y) := by show Value.long (Int64.ofInt (w64 _)) = _; rw [w64, zl_to, Int64.ofInt_mul]
  simp only [List.map_cons, e] at kk
  exact lv_lmul hx hb hd kk
theorem zr_lcmp {G : zG} {l : Launch} {k pc : Nat} {L : zL} {S : List zV} {m : zM} {h : zH} {x y : Int} (hd : decode (zbytes k) pc = .ok (.lcmp, 1)) : zRule0 G l k pc L (.inr (.inl y) :: .inr (.inl x) :: S) (pc + 1) L (.inl (zlcmp x y) :: S) m h := by
  intro p e R s mid args below meth c H locs cells slots Q ls hat hl hS hR hV hf hlo hc hs kk
  obtain ⟨hx, hb, hml, hret, hlk, hown, hnm, hts, hK⟩ := hat
  have hyr : Z_zrl y := hS (.inr (.inl y)) List.mem_cons_self
  have hxr : Z_zrl x := hS (.inr (.inl x)) (by simp)
  have kk := kk ls hl (by intro v hv; rcases List.mem_cons.mp hv with rfl | hv; (unfold zlcmp; exact (by show zri _; split; exact ⟨by omega, by omega⟩; split <;> exact ⟨by omega, by omega⟩)); exact hS v (by simp [hv]))
  have e : zvV G (.inl (zlcmp x y)) = .int (lg_cmp (Int64.ofInt x) (Int64.ofInt y)) := by
    show Value.int _ = _
    unfold zlcmp lg_cmp
    simp only [gt_iff_lt, Int64.lt_iff_toInt_lt, ← Int64.toInt_inj, zl_of hxr, zl_of hyr]
    rcases Int.lt_trichotomy x y with q | q | q
    · rw [if_pos q, if_neg (by omega), if_neg (by omega)]; rfl
    · rw [if_neg (by omega), if_pos q, if_neg (by omega), if_pos q]; rfl
    · rw [if_neg (by omega), if_neg (by omega), if_pos q]; rfl
  simp only [List.map_cons, e] at kk
  exact W.lcmp hx hb hd kk
theorem zr_if {G : zG} {l : Launch} {k pc : Nat} {L : zL} {S : List zV} {m : zM} {h : zH} {x : Int} {t c0 : Nat} {off : Int} (hd : decode (zbytes k) pc = .ok (.ifCond (zcI c0) off, 3)) (ht : (pc : Int) + off = (t : Int)) :
    (zcmp c0 x 0 → zRule0 G l k pc L (.inl x :: S) t L S m h) ∧ (¬ zcmp c0 x 0 → zRule0 G l k pc L (.inl x :: S) (pc + 3) L S m h) := by
  constructor <;> intro hcmp <;> intro p e R s mid args below meth c H locs cells slots Q ls hat hl hS hR hV hf hlo hc hs kk
  all_goals obtain ⟨hx, hb, hml, hret, hlk, hown, hnm, hts, hK⟩ := hat
  · have kk := kk ls hl (fun v hv => hS v (by simp [hv]))
    have hxr : zri x := hS (.inl x) (by simp)
    have hyr : zri 0 := zr_0
    match c0, hd, hcmp with
    | 0, hd, hcmp => exact lv_if_eq hx hb hd ht (fun _ => kk) (fun q => absurd hcmp (fun z => q ((zi_eq hxr hyr).mpr z)))
    | 1, hd, hcmp => exact lv_if_ne hx hb hd ht (fun _ => kk) (fun q => absurd ((zi_eq hxr hyr).mp q) hcmp)
    | 2, hd, hcmp => exact lv_if_lt hx hb hd ht (fun _ => kk) (fun q => absurd hcmp (fun z => q ((zi_lt hxr hyr).mpr z)))
    | 3, hd, hcmp => exact lv_if_ge hx hb hd ht (fun _ => kk) (fun q => absurd hcmp (fun z => q ((zi_le hyr hxr).mpr z)))
    | 4, hd, hcmp => exact lv_if_gt hx hb hd ht (fun _ => kk) (fun q => absurd hcmp (fun z => q ((zi_lt hyr hxr).mpr z)))
    | _ + 5, hd, hcmp => exact lv_if_le hx hb hd ht (fun _ => kk) (fun q => absurd hcmp (fun z => q ((zi_le hxr hyr).mpr z)))
  · have kk := kk ls hl (fun v hv => hS v (by simp [hv]))
    have hxr : zri x := hS (.inl x) (by simp)
    have hyr : zri 0 := zr_0
    match c0, hd, hcmp with
    | 0, hd, hcmp => exact lv_if_eq hx hb hd ht (fun q => absurd ((zi_eq hxr hyr).mp q) hcmp) (fun _ => kk)
    | 1, hd, hcmp => exact lv_if_ne hx hb hd ht (fun q => absurd (fun z => q ((zi_eq hxr hyr).mpr z)) hcmp) (fun _ => kk)
    | 2, hd, hcmp => exact lv_if_lt hx hb hd ht (fun q => absurd ((zi_lt hxr hyr).mp q) hcmp) (fun _ => kk)
    | 3, hd, hcmp => exact lv_if_ge hx hb hd ht (fun q => absurd ((zi_le hyr hxr).mp q) hcmp) (fun _ => kk)
    | 4, hd, hcmp => exact lv_if_gt hx hb hd ht (fun q => absurd ((zi_lt hyr hxr).mp q) hcmp) (fun _ => kk)
    | _ + 5, hd, hcmp => exact lv_if_le hx hb hd ht (fun q => absurd ((zi_le hxr hyr).mp q) hcmp) (fun _ => kk)
theorem zr_icmp {G : zG} {l : Launch} {k pc : Nat} {L : zL} {S : List zV} {m : zM} {h : zH} {x y : Int} {t c0 : Nat} {off : Int} (hd : decode (zbytes k) pc = .ok (.if_icmp (zcI c0) off, 3)) (ht : (pc : Int) + off = (t : Int)) :
    (zcmp c0 x y → zRule0 G l k pc L (.inl y :: .inl x :: S) t L S m h) ∧ (¬ zcmp c0 x y → zRule0 G l k pc L (.inl y :: .inl x :: S) (pc + 3) L S m h) := by
  constructor <;> intro hcmp <;> intro p e R s mid args below meth c H locs cells slots Q ls hat hl hS hR hV hf hlo hc hs kk
  all_goals obtain ⟨hx, hb, hml, hret, hlk, hown, hnm, hts, hK⟩ := hat
  · have kk := kk ls hl (fun v hv => hS v (by simp [hv]))
    have hxr : zri x := hS (.inl x) (by simp)
    have hyr : zri y := hS (.inl y) List.mem_cons_self
    match c0, hd, hcmp with
    | 0, hd, hcmp => exact lv_icmp_eq hx hb hd ht (fun _ => kk) (fun q => absurd hcmp (fun z => q ((zi_eq hxr hyr).mpr z)))
    | 1, hd, hcmp => exact lv_icmp_ne hx hb hd ht (fun _ => kk) (fun q => absurd ((zi_eq hxr hyr).mp q) hcmp)
    | 2, hd, hcmp => exact lv_icmp_lt hx hb hd ht (fun _ => kk) (fun q => absurd hcmp (fun z => q ((zi_lt hxr hyr).mpr z)))
    | 3, hd, hcmp => exact lv_icmp_ge hx hb hd ht (fun _ => kk) (fun q => absurd hcmp (fun z => q ((zi_le hyr hxr).mpr z)))
    | 4, hd, hcmp => exact lv_icmp_gt hx hb hd ht (fun _ => kk) (fun q => absurd hcmp (fun z => q ((zi_lt hyr hxr).mpr z)))
    | _ + 5, hd, hcmp => exact lv_icmp_le hx hb hd ht (fun _ => kk) (fun q => absurd hcmp (fun z => q ((zi_le hxr hyr).mpr z)))
  · have kk := kk ls hl (fun v hv => hS v (by simp [hv]))
    have hxr : zri x := hS (.inl x) (by simp)
    have hyr : zri y := hS (.inl y) List.mem_cons_self
    match c0, hd, hcmp with
    | 0, hd, hcmp => exact lv_icmp_eq hx hb hd ht (fun q => absurd ((zi_eq hxr hyr).mp q) hcmp) (fun _ => kk)
    | 1, hd, hcmp => exact lv_icmp_ne hx hb hd ht (fun q => absurd (fun z => q ((zi_eq hxr hyr).mpr z)) hcmp) (fun _ => kk)
    | 2, hd, hcmp => exact lv_icmp_lt hx hb hd ht (fun q => absurd ((zi_lt hxr hyr).mp q) hcmp) (fun _ => kk)
    | 3, hd, hcmp => exact lv_icmp_ge hx hb hd ht (fun q => absurd ((zi_le hyr hxr).mp q) hcmp) (fun _ => kk)
    | 4, hd, hcmp => exact lv_icmp_gt hx hb hd ht (fun q => absurd ((zi_lt hyr hxr).mp q) hcmp) (fun _ => kk)
    | _ + 5, hd, hcmp => exact lv_icmp_le hx hb hd ht (fun q => absurd ((zi_le hxr hyr).mp q) hcmp) (fun _ => kk)
theorem zr_ifnull {G : zG} {l : Launch} {k pc : Nat} {L : zL} {S : List zV} {m : zM} {h : zH} {x : Int} {t : Nat} {off : Int} (hd : decode (zbytes k) pc = .ok (.ifnull off, 3)) (ht : (pc : Int) + off = (t : Int)) :
    (x = 0 → zRule0 G l k pc L (.inr (.inr x) :: S) t L S m h) ∧ (¬ x = 0 → zRule0 G l k pc L (.inr (.inr x) :: S) (pc + 3) L S m h) := by
  constructor <;> intro hc0 <;> intro p e R s mid args below meth c H locs cells slots Q ls hat hl hS hR hV hf hlo hc hs kk
  all_goals obtain ⟨hx, hb, hml, hret, hlk, hown, hnm, hts, hK⟩ := hat
  · have kk := kk ls hl (fun v hv => hS v (by simp [hv]))
    have e : zvV G (.inr (.inr x)) = .null := if_pos hc0
    simp only [List.map_cons, e]
    exact lv_ifnullN hx hb hd ht kk
  · have kk := kk ls hl (fun v hv => hS v (by simp [hv]))
    have e : zvV G (.inr (.inr x)) = .ref (zad G x) := if_neg hc0
    simp only [List.map_cons, e]
    exact lv_ifnull hx hb hd kk
theorem zr_ifnonnull {G : zG} {l : Launch} {k pc : Nat} {L : zL} {S : List zV} {m : zM} {h : zH} {x : Int} {t : Nat} {off : Int} (hd : decode (zbytes k) pc = .ok (.ifnonnull off, 3)) (ht : (pc : Int) + off = (t : Int)) :
    (x = 0 → zRule0 G l k pc L (.inr (.inr x) :: S) (pc + 3) L S m h) ∧ (¬ x = 0 → zRule0 G l k pc L (.inr (.inr x) :: S) t L S m h) := by
  constructor <;> intro hc0 <;> intro p e R s mid args below meth c H locs cells slots Q ls hat hl hS hR hV hf hlo hc hs kk
  all_goals obtain ⟨hx, hb, hml, hret, hlk, hown, hnm, hts, hK⟩ := hat
  · have kk := kk ls hl (fun v hv => hS v (by simp [hv]))
    have e : zvV G (.inr (.inr x)) = .null := if_pos hc0
    simp only [List.map_cons, e]
    exact lv_ifnonnullN hx hb hd kk
  · have kk := kk ls hl (fun v hv => hS v (by simp [hv]))
    have e : zvV G (.inr (.inr x)) = .ref (zad G x) := if_neg hc0
    simp only [List.map_cons, e]
    exact lv_ifnonnull hx hb hd ht kk
theorem zr_goto {G : zG} {l : Launch} {k pc : Nat} {L : zL} {S : List zV} {m : zM} {h : zH} {t : Nat} {off : Int} (hd : decode (zbytes k) pc = .ok (.goto off, 3)) (ht : (pc : Int) + off = (t : Int)) : zRule0 G l k pc L S t L S m h := by
  intro p e R s mid args below meth c H locs cells slots Q ls hat hl hS hR hV hf hlo hc hs kk
  obtain ⟨hx, hb, hml, hret, hlk, hown, hnm, hts, hK⟩ := hat
  exact lv_goto hx hb hd ht (kk ls hl hS)
theorem zr_null {G : zG} {l : Launch} {k pc : Nat} {L : zL} {S : List zV} {m : zM} {h : zH} (hd : decode (zbytes k) pc = .ok (.aconst_null, 1)) : zRule0 G l k pc L S (pc + 1) L (.inr (.inr 0) :: S) m h := by
  intro p e R s mid args below meth c H locs cells slots Q ls hat hl hS hR hV hf hlo hc hs kk
  obtain ⟨hx, hb, hml, hret, hlk, hown, hnm, hts, hK⟩ := hat
  exact lv_null hx hb hd (kk ls hl (by intro v hv; rcases List.mem_cons.mp hv with rfl | hv; trivial; exact hS v hv))
theorem zr_dup {G : zG} {l : Launch} {k pc : Nat} {L : zL} {S : List zV} {m : zM} {h : zH} {v : zV} (hv : zone v = true) (hd : decode (zbytes k) pc = .ok (.dup, 1)) : zRule0 G l k pc L (v :: S) (pc + 1) L (v :: v :: S) m h := by
  intro p e R s mid args below meth c H locs cells slots Q ls hat hl hS hR hV hf hlo hc hs kk
  obtain ⟨hx, hb, hml, hret, hlk, hown, hnm, hts, hK⟩ := hat
  exact lv_dup hx hb hd (zcat1 hv) (kk ls hl (by intro w hw; rcases List.mem_cons.mp hw with rfl | hw; exact hS _ List.mem_cons_self; exact hS w hw))
theorem zr_dup2 {G : zG} {l : Launch} {k pc : Nat} {L : zL} {S : List zV} {m : zM} {h : zH} {v w : zV} (hv : zone v = true) (hw : zone w = true) (hd : decode (zbytes k) pc = .ok (.dup2, 1)) : zRule0 G l k pc L (v :: w :: S) (pc + 1) L (v :: w :: v :: w :: S) m h := by
  intro p e R s mid args below meth c H locs cells slots Q ls hat hl hS hR hV hf hlo hc hs kk
  obtain ⟨hx, hb, hml, hret, hlk, hown, hnm, hts, hK⟩ := hat
  exact lv_dup2_11 hx hb hd (zcat1 hv) (zcat1 hw) (kk ls hl (by intro u hu; exact hS u (by simp only [List.mem_cons] at hu ⊢; rcases hu with q | q | q <;> simp [q])))
theorem zr_pop {G : zG} {l : Launch} {k pc : Nat} {L : zL} {S : List zV} {m : zM} {h : zH} {v : zV} (hv : zone v = true) (hd : decode (zbytes k) pc = .ok (.pop, 1)) : zRule0 G l k pc L (v :: S) (pc + 1) L S m h := by
  intro p e R s mid args below meth c H locs cells slots Q ls hat hl hS hR hV hf hlo hc hs kk
  obtain ⟨hx, hb, hml, hret, hlk, hown, hnm, hts, hK⟩ := hat
  exact lv_pop hx hb hd (zcat1 hv) (kk ls hl (fun w hw => hS w (List.mem_cons_of_mem _ hw)))
theorem zr_max {G : zG} {l : Launch} {k pc : Nat} {L : zL} {S : List zV} {m : zM} {h : zH} {x y : Int} {i : Nat} (hlk2 : Cond.methodLink (zon (zow k)) i Lib.Math.max.name ∈ zwsG) (hstt : Cond.static Lib.Math.max.name ∈ zwsG) (hini : Cond.initialized "java/lang/Math" ∈ zwsG) (hcd : Cond.code Lib.Math.max.name Lib.Math.max.code 2 (some .int) ∈ zwsG) (hw : (S.map fun v => (zvV G v).category).sum ≤ 8) (hd : decode (zbytes k) pc = .ok (.invokestatic i, 3)) : zRule0 G l k pc L (.inl y :: .inl x :: S) (pc + 3) L (.inl (max x y) :: S) m h := by
  intro p e R s mid args below meth c H locs cells slots Q ls hat hl hS hR hV hf hlo hc hs kk
  obtain ⟨hx, hb, hml, hret, hlk, hown, hnm, hts, hK⟩ := hat
  have hyr : zri y := hS (.inl y) List.mem_cons_self
  have hxr : zri x := hS (.inl x) (by simp)
  have kk := kk ls hl (by intro v hv; rcases List.mem_cons.mp hv with rfl | hv; (exact ⟨by have := hxr.1; have := hyr.1; omega, by have := hxr.2; have := hyr.2; omega⟩); exact hS v (by simp [hv]))
  have e : zvV G (.inl (max x y)) = .int (if Int32.ofInt x < Int32.ofInt y then Int32.ofInt y else Int32.ofInt x) := by
    show Value.int _ = Value.int _
    congr 1
    by_cases q : x < y
    · rw [if_pos (by first | exact (zi_lt hxr hyr).mpr q | exact (zi_lt hyr hxr).mpr q)]; congr 1; omega
    · rw [if_neg (by first | exact fun z => q ((zi_lt hxr hyr).mp z) | exact fun z => q ((zi_lt hyr hxr).mp z))]; congr 1; omega
  simp only [List.map_cons, e] at kk
  exact va_mmax hx hb (hml.trans hl.1.symm) hown (hts _ hlk2) (hts _ hstt) (hts _ hini) (hts _ hcd) (by omega) (by rw [List.map_map]; show (S.map fun v => (zvV G v).category).sum + 13 ≤ _; omega) hc hs hd kk
theorem zr_min {G : zG} {l : Launch} {k pc : Nat} {L : zL} {S : List zV} {m : zM} {h : zH} {x y : Int} {i : Nat} (hlk2 : Cond.methodLink (zon (zow k)) i Lib.Math.min.name ∈ zwsG) (hstt : Cond.static Lib.Math.min.name ∈ zwsG) (hini : Cond.initialized "java/lang/Math" ∈ zwsG) (hcd : Cond.code Lib.Math.min.name Lib.Math.min.code 2 (some .int) ∈ zwsG) (hw : (S.map fun v => (zvV G v).category).sum ≤ 8) (hd : decode (zbytes k) pc = .ok (.invokestatic i, 3)) : zRule0 G l k pc L (.inl y :: .inl x :: S) (pc + 3) L (.inl (min x y) :: S) m h := by
  intro p e R s mid args below meth c H locs cells slots Q ls hat hl hS hR hV hf hlo hc hs kk
  obtain ⟨hx, hb, hml, hret, hlk, hown, hnm, hts, hK⟩ := hat
  have hyr : zri y := hS (.inl y) List.mem_cons_self
  have hxr : zri x := hS (.inl x) (by simp)
  have kk := kk ls hl (by intro v hv; rcases List.mem_cons.mp hv with rfl | hv; (exact ⟨by have := hxr.1; have := hyr.1; omega, by have := hxr.2; have := hyr.2; omega⟩); exact hS v (by simp [hv]))
  have e : zvV G (.inl (min x y)) = .int (if Int32.ofInt y < Int32.ofInt x then Int32.ofInt y else Int32.ofInt x) := by
    show Value.int _ = Value.int _
    congr 1
    by_cases q : y < x
    · rw [if_pos (by first | exact (zi_lt hxr hyr).mpr q | exact (zi_lt hyr hxr).mpr q)]; congr 1; omega
    · rw [if_neg (by first | exact fun z => q ((zi_lt hxr hyr).mp z) | exact fun z => q ((zi_lt hyr hxr).mp z))]; congr 1; omega
  simp only [List.map_cons, e] at kk
  exact va_mmin hx hb (hml.trans hl.1.symm) hown (hts _ hlk2) (hts _ hstt) (hts _ hini) (hts _ hcd) (by omega) (by rw [List.map_map]; show (S.map fun v => (zvV G v).category).sum + 13 ≤ _; omega) hc hs hd kk

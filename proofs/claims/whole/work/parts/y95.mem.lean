/-! SOUNDNESS of reads and writes. -/
theorem zRel.lt {G : zG} {m : zM} {h : zH} {H : Heap} (hR : zRel G m h H) {a : Int} (ha : kd h a ≠ 0) (h0 : 0 < a) : zad G a < H.size := by
  obtain ⟨⟨h1, h2⟩, -, ⟨-, h3, -⟩, -⟩ := hR
  have := h3 a ha
  rw [h2, zad, if_pos h0]
  omega
theorem zad_pos {G : zG} {a : Int} (h0 : 0 < a) : zA G (zad G a) := by
  show G.1.heap.size ≤ zad G a
  rw [zad, if_pos h0]
  exact Nat.le_add_right _ _
theorem zad_ne {G : zG} {m : zM} {h : zH} {H : Heap} (hR : zRel G m h H) {a b : Int} (h0 : 0 < a) (hb : kd h b ≠ 0) (hne : b ≠ a) : zad G b ≠ zad G a := by
  obtain ⟨-, -, ⟨h3, -, h4⟩, -⟩ := hR
  by_cases hb0 : 0 < b
  · rw [zad, zad, if_pos h0, if_pos hb0]; omega
  · by_cases hz : b = 0
    · subst hz; exact absurd h3 hb
    · have := h4 b (by omega) hb
      rw [zad, zad, if_pos h0, if_neg hb0]; omega
theorem zKn {G : zG} (hG : zCtx G) {s : State} (hK : zK G s) {c : Nat} (h1 : 1 ≤ c) (h2 : c ≤ 13) : u_Kn s (zcn c) (zcT c) (zcN c) (G.2.2.1 c) (G.2.2.2 c) := u_Kn_moved hK.1 (hG.1 c h1 h2)
theorem zlays {c f : Nat} (h1 : 1 ≤ c) (h2 : c ≤ 13) (hf : f < zcN c) : u_lay (zcn c) (zcT c) f ∈ zwsG := by
  have h := List.all_eq_true.mp zZ_ok (c - 1) (List.mem_range.mpr (by omega))
  rw [Nat.sub_add_cancel h1] at h
  unfold zckZ at h
  split at h
  simp only [Bool.and_eq_true, decide_eq_true_eq] at h
  have h3 := List.all_eq_true.mp h.2 f (List.mem_range.mpr hf)
  simp only [decide_eq_true_eq] at h3
  refine zword h3 ?_
  unfold u_lay
  split <;> rfl
theorem zlays_in {c : Nat} (h1 : 1 ≤ c) (h2 : c ≤ 13) : ∀ w ∈ u_ws (zcn c) (zcT c) (zcN c), w ∈ zwsG := by
  intro w hw
  obtain ⟨k, hk, rfl⟩ := List.mem_map.mp hw
  exact zlays h1 h2 (List.mem_range.mp hk)
theorem zparse {c f : Nat} (h1 : 1 ≤ c) (h2 : c ≤ 13) (hf : f < zcN c) : parseFieldDescriptor (zcT c f).2.2.1 = some (zcy c f) := by
  have : (List.range 13).all (fun c => (List.range (zcN (c + 1))).all (fun f => decide (parseFieldDescriptor (zcT (c + 1) f).2.2.1 = some (zcy (c + 1) f)))) = true := by decide +kernel
  have h3 := List.all_eq_true.mp this (c - 1) (List.mem_range.mpr (by omega))
  rw [Nat.sub_add_cancel h1] at h3
  have h4 := List.all_eq_true.mp h3 f (List.mem_range.mpr hf)
  simpa using h4
theorem znames {c : Nat} (h1 : 1 ≤ c) (h2 : c ≤ 13) : ∀ a, a < zcN c → ∀ b, b < zcN c → a ≠ b → (zcT c a).2.1 ≠ (zcT c b).2.1 := by
  have : (List.range 13).all (fun c => (List.range (zcN (c + 1))).all (fun a => (List.range (zcN (c + 1))).all (fun b => decide (a ≠ b → (zcT (c + 1) a).2.1 ≠ (zcT (c + 1) b).2.1)))) = true := by decide +kernel
  have h3 := List.all_eq_true.mp this (c - 1) (List.mem_range.mpr (by omega))
  rw [Nat.sub_add_cancel h1] at h3
  intro a ha b hb hne
  have h4 := List.all_eq_true.mp (List.all_eq_true.mp h3 a (List.mem_range.mpr ha)) b (List.mem_range.mpr hb)
  simp only [decide_eq_true_eq] at h4
  exact h4 hne
/-- the link's entry -/
theorem zlinkF {o i c f g w : Nat} (ho : o < 20) (he : zlook (zfL o) i = some (c, f, g, w)) : 1 ≤ c ∧ c ≤ 13 ∧ f < zcN c ∧
    ((g = 0 ∧ Cond.fieldLink (zon o) i (zcn c) (zcT c f).2.1 (zcT c f).2.2.1 ∈ zwsG) ∨ (g ≠ 0 ∧ Cond.fieldLinkNest (zon o) i (zcn c) (zcT c f).2.1 (zcT c f).2.2.1 Z_zho ∈ lw_tbl)) := by
  have h := List.all_eq_true.mp (List.all_eq_true.mp zF_ok o (List.mem_range.mpr ho)) _ (zlook_mem he)
  unfold zckF at h
  simp only [Bool.and_eq_true] at h
  obtain ⟨⟨⟨h1, h2⟩, h3⟩, h4⟩ := h
  refine ⟨Nat.le_of_ble_eq_true h1, Nat.le_of_ble_eq_true h2, Nat.le_of_ble_eq_true h3, ?_⟩
  match g, h4 with
  | 0, h4 => exact Or.inl ⟨rfl, zword (by simpa using h4) rfl⟩
  | g + 1, h4 => exact Or.inr ⟨by omega, List.mem_of_getElem? (by simpa using h4)⟩
theorem zown_ref {c f : Nat} (h1 : 1 ≤ c) (h2 : c ≤ 13) (hf : f < zcN c) : (zcT c f).1 = zcn c := by
  have : (List.range 13).all (fun c => (List.range (zcN (c + 1))).all (fun f => decide ((zcT (c + 1) f).1 = zcn (c + 1)))) = true := by decide +kernel
  have h3 := List.all_eq_true.mp this (c - 1) (List.mem_range.mpr (by omega))
  rw [Nat.sub_add_cancel h1] at h3
  have h4 := List.all_eq_true.mp h3 f (List.mem_range.mpr hf)
  simpa using h4
section ZM
variable {G : zG} {l : Launch} {k pc n a : Nat} {L : zL} {S : List zV} {m : zM} {h : zH}
theorem zr_getf (hG : zCtx G) (ho : zow k < 20) {x c f g w : Nat} (he : zlook (zfL (zow k)) x = some (c, f, g, w)) {b : Int} (hb0 : kd h b = c) (hd : decode (zbytes k) pc = .ok (.getfield x, 3)) : zRule0 G l k pc L (.inr (.inr b) :: S) (pc + 3) L (zfv (zcy c f) (m b f) :: S) m h := by
  intro p e R s mid args below meth cd H locs cells slots Q ls hat hl hS hR hV hf hlo hc hs kk
  obtain ⟨hx, hb, hml, hret, hlk, hown, hnm, hts, hK⟩ := hat
  obtain ⟨h1, h2, h3, h4⟩ := zlinkF ho he
  obtain ⟨o1, ⟨cell, q1, q2, q3, q4⟩, o3⟩ := hR.2.2.2.1 b c h1 h2 hb0
  obtain ⟨hSl, hfc, kC, hkC, hkind⟩ := zKn hG hK h1 h2
  obtain ⟨cf, kf, fi, fd, hi, hsl⟩ := hSl f h3
  rw [zown_ref h1 h2 h3] at hi
  have hlay := u_lays (T := zcT c) (N := zcN c) (C := zcn c) hts (zlays_in h1 h2) h3
  rw [zown_ref h1 h2 h3] at hlay
  have hst := (u_facts hfc hkC hlay hi).1
  have hv : cell.slots[fd.slot]? = some (zvV G (zfv (zcy c f) (m b f))) := by rw [hsl]; exact q4 f h3
  have hk0 : cell.vm ≠ .unknown := by rw [q3]; exact fun h => by cases h
  have e : zvV G (.inr (.inr b)) = .ref (zad G b) := if_neg (by omega)
  have kk := kk ls hl (by intro v hv; rcases List.mem_cons.mp hv with rfl | hv; exact o3 f h3; exact hS v (by simp [hv]))
  simp only [List.map_cons, e] at kk ⊢
  rcases h4 with ⟨-, hw⟩ | ⟨-, hw⟩
  · exact W.getf hx hb hown (hts _ hw) hi hst q1 hk0 hv rfl rfl hd kk
  · exact va_Wgetf hx hb hown (va_Nw.use rfl (hK.2.1 _ hw (Or.inl ⟨_, _, _, _, _, _, rfl⟩))) hi hst q1 hk0 hv rfl rfl hd kk
theorem zRel_upd {m' : zM} {H H' : Heap} (hR : zRel G m h H) {a : Int} (ha : kd h a ≠ 0) (h0 : 0 < a) (hsz : H'.size = H.size) (hq : ∀ q : Nat, q ≠ zad G a → H'[q]? = H[q]?) (hm : ∀ b, b ≠ a → m' b = m b)
    (hobj : ∀ c : Nat, 1 ≤ c → c ≤ 13 → kd h a = c → zObj G m' H' a c) (harr : ∀ c : Nat, 101 ≤ c → c ≤ 123 → kd h a = c → zArr G m' h H' a c) : zRel G m' h H' := by
  have hR0 := hR
  obtain ⟨⟨h1, h2⟩, h3, h4, h5, h6, h7⟩ := hR
  refine ⟨⟨h1, by rw [hsz]; exact h2⟩, fun q hql => ?_, h4, fun b c c1 c2 hb => ?_, fun b c c1 c2 hb => ?_, h7⟩
  · rw [hq q (fun e => by have := zad_pos (G := G) h0; rw [← e] at this; exact absurd hql (Nat.not_lt.mpr this))]
    exact h3 q hql
  · by_cases e : b = a
    · subst e; exact hobj c c1 c2 hb
    · obtain ⟨o1, o2, o3⟩ := h5 b c c1 c2 hb
      have hne := zad_ne hR0 h0 (show kd h b ≠ 0 by omega) e
      rw [zObj, hm b e]
      exact ⟨o1, o2.kept (hq _ hne), o3⟩
  · by_cases e : b = a
    · subst e; exact harr c c1 c2 hb
    · obtain ⟨o1, o2, cell, o3, o4⟩ := h6 b c c1 c2 hb
      have hne := zad_ne hR0 h0 (show kd h b ≠ 0 by omega) e
      rw [zArr, hm b e]
      exact ⟨o1, o2, cell, (hq _ hne).trans o3, o4⟩
theorem Z_zwr_ne {m : zM} {a i v b : Int} (h : b ≠ a) : zwr m a i v b = m b := by funext j; simp [zwr, h]
theorem Z_zwr_eq {m : zM} {a i v j : Int} : zwr m a i v a j = if j = i then v else m a j := by simp [zwr]
theorem zvV_fit {t : FieldType} {x : Int} (hz : ztt t = 3 → x = 0 ∨ x = 1) (hb : t ≠ .byte) (hc : t ≠ .char) (hs : t ≠ .short) (hf : t ≠ .float) (hd : t ≠ .double) : narrow t (zvV G (zfv t x)) = zvV G (zfv t x) ∧ fits t (zvV G (zfv t x)) = true := by
  cases t with
  | boolean => rcases hz rfl with rfl | rfl <;> exact ⟨rfl, rfl⟩
  | byte => exact absurd rfl hb
  | char => exact absurd rfl hc
  | short => exact absurd rfl hs
  | float => exact absurd rfl hf
  | double => exact absurd rfl hd
  | int => exact ⟨rfl, rfl⟩
  | long => exact ⟨rfl, rfl⟩
  | object n => refine ⟨rfl, ?_⟩; show fits (.object n) (if x = 0 then Value.null else .ref (zad G x)) = true; split <;> rfl
  | array n => refine ⟨rfl, ?_⟩; show fits (.array n) (if x = 0 then Value.null else .ref (zad G x)) = true; split <;> rfl
theorem zty_ok {c f : Nat} (h1 : 1 ≤ c) (h2 : c ≤ 13) (hf : f < zcN c) : zcy c f ≠ .byte ∧ zcy c f ≠ .char ∧ zcy c f ≠ .short ∧ zcy c f ≠ .float ∧ zcy c f ≠ .double := by
  have : (List.range 13).all (fun c => (List.range (zcN (c + 1))).all (fun f => decide (zcy (c + 1) f ≠ .byte ∧ zcy (c + 1) f ≠ .char ∧ zcy (c + 1) f ≠ .short ∧ zcy (c + 1) f ≠ .float ∧ zcy (c + 1) f ≠ .double))) = true := by decide +kernel
  have h3 := List.all_eq_true.mp this (c - 1) (List.mem_range.mpr (by omega))
  rw [Nat.sub_add_cancel h1] at h3
  have h4 := List.all_eq_true.mp h3 f (List.mem_range.mpr hf)
  simpa using h4
theorem zr_putf (hG : zCtx G) (ho : zow k < 20) {x c f w : Nat} (he : zlook (zfL (zow k)) x = some (c, f, 0, w)) {b v : Int} (hb0 : kd h b = c) (hbp : 0 < b) (hz : ztt (zcy c f) = 3 → v = 0 ∨ v = 1)
    (hfin : (zcT c f).2.2.2 = true → (zyn k).name = "<init>" ∧ zon (zow k) = (zcT c f).1) (hd : decode (zbytes k) pc = .ok (.putfield x, 3)) :
    zRule G l k pc L (zfv (zcy c f) v :: .inr (.inr b) :: S) m h (pc + 3) L S (zwr m b f v) h := by
  refine ⟨Int.le_refl _, Int.le_refl _, fun p e R s mid args below meth cd H locs cells slots Q ls hat hl hS hR hV hf hlo hc hs kk => ?_⟩
  simp only [Int.sub_self, Int.toNat_zero, Nat.add_zero] at hc hs kk
  obtain ⟨hx, hb, hml, hret, hlk, hown, hnm, hts, hK⟩ := hat
  obtain ⟨h1, h2, h3, h4⟩ := zlinkF ho he
  obtain ⟨o1, ⟨cell, q1, q2, q3, q4⟩, o3⟩ := hR.2.2.2.1 b c h1 h2 hb0
  obtain ⟨hSl, hfc, kC, hkC, hkind⟩ := zKn hG hK h1 h2
  have hSl0 := hSl
  obtain ⟨cf, kf, fi, fd, hi, hsl⟩ := hSl f h3
  have hown1 := zown_ref h1 h2 h3
  have hlay0 := hts _ (zlays h1 h2 h3)
  have hlay := u_lays (T := zcT c) (N := zcN c) (C := zcn c) hts (zlays_in h1 h2) h3
  have hst := (u_facts hfc hkC hlay hi).1
  obtain ⟨t1, t2, t3, t4, t5⟩ := zty_ok h1 h2 h3
  obtain ⟨hn, hft⟩ := zvV_fit (G := G) hz t1 t2 t3 t4 t5
  have hap : ∀ x y, x < zcN c → y < zcN c → x ≠ y → (G.2.2.2 c) x ≠ (G.2.2.2 c) y := by
    intro x y hx hy hne
    obtain ⟨_, _, _, fa, hia, ea⟩ := hSl0 x hx
    obtain ⟨_, _, _, fb, hib, eb⟩ := hSl0 y hy
    rw [← ea, ← eb]
    refine u_apart (u_lays hts (zlays_in h1 h2) hx) (u_lays hts (zlays_in h1 h2) hy) hia hib ?_
    rw [(State.fieldFound?_type hia (zparse h1 h2 hx)).1, (State.fieldFound?_type hib (zparse h1 h2 hy)).1]
    exact znames h1 h2 x hx y hy hne
  have ev : zvV G (.inr (.inr b)) = .ref (zad G b) := if_neg (by omega)
  have hw : Cond.fieldLink (zon (zow k)) x (zcn c) (zcT c f).2.1 (zcT c f).2.2.1 ∈ zwsG := by
    rcases h4 with ⟨-, hw⟩ | ⟨hw, -⟩
    · exact hw
    · exact absurd rfl hw
  have hrv : zrg (zfv (zcy c f) v) := hS _ List.mem_cons_self
  have fin : ∀ H' : Heap, H'[zad G b]? = some (cell.setSlot fd.slot (zvV G (zfv (zcy c f) v))) → H'.size = H.size → (∀ q, q ≠ zad G b → H'[q]? = H[q]?) → W p l e R s mid args below meth cd H' (locs ++ [⟨zad G b, fd.slot⟩]) cells slots Q (F0 mid (pc + 3) ls (S.map (zvV G))) := by
    intro H' e1 e2 e3
    refine kk ls H' _ hl (fun v hv => hS v (by simp [hv])) (zRel_upd hR (a := b) (by omega) hbp e2 e3 (fun b' hb' => Z_zwr_ne hb') (fun c' c1 c2 hb' => ?_) (fun c' c1 c2 hb' => by omega)) (hV.put e2 e3 (zad_pos hbp))
    have hcc : c' = c := by omega
    subst hcc
    refine ⟨hbp, t_OB.to (V := updV (fun k => zvV G (zfv (zcy c' k) (m b k))) f (zvV G (zfv (zcy c' f) v))) ⟨_, e1, q2, q3, by rw [hsl]; exact t_set q4 hap h3 _⟩ (fun j hj => ?_), fun j hj => ?_⟩
    · by_cases hjf : j = f
      · subst hjf; simp [updV, Z_zwr_eq]
      · rw [updV, if_neg hjf, Z_zwr_eq, if_neg (by omega)]
    · by_cases hjf : j = f
      · subst hjf; rw [Z_zwr_eq, if_pos rfl]; exact hrv
      · rw [Z_zwr_eq, if_neg (by omega)]; exact o3 j hj
  simp only [List.map_cons, ev]
  have hi2 := hi
  rw [hown1] at hi2
  cases hfn : (zcT c f).2.2.2 with
  | false =>
    unfold u_lay at hlay0
    rw [if_neg (by rw [hfn]; decide)] at hlay0
    have h6 := u_store hfc hkC hkind hlay0 hi (zparse h1 h2 h3) hn hft
    exact W.putK hx hb (f := fd) ⟨hown, hts _ hw, ⟨_, _, _, hi2⟩, hst⟩ (by rw [q2]; exact h6) q1 q3 (by rw [hsl]; exact k2_hasslot (q4 f h3)) rfl rfl hd fin
  | true =>
    unfold u_lay at hlay0
    rw [if_pos hfn] at hlay0
    obtain ⟨g1, g2⟩ := hfin hfn
    have hcf : mid.cls = cf := by
      obtain ⟨_, _, c', _, _, _, -, -, hf', -, -, -, hown2, -⟩ := Cond.laysFinal_spec hlay0
      have e1 : c' = cf := by have := hi.symm.trans hf'; simp at this; exact this.1.symm
      rw [← g2] at hown2
      rw [← e1]; exact Option.some.inj (hown.symm.trans hown2)
    have h6 := u_fits hfc hkC hkind (Or.inr hlay0) hi (zparse h1 h2 h3) hn hft
    exact W.putFinK hx hb hown (hts _ hw) hi2 hst hcf (hnm g1) (by rw [q2]; exact h6) q1 q3 (by rw [hsl]; exact k2_hasslot (q4 f h3)) rfl rfl hd fin
end ZM

/-! SOUNDNESS: a method's contract out of its run; calls. -/
section ZQ
variable {G : zG} {l : Launch}
theorem zK.blind {G : zG} {U : State} {g : JFrame} {mk : MethodId} {a : Array Value} (h : zK G U) : zK G (U.calling g mk a) := zK.same (s := U) (U := U.calling g mk a) rfl h
theorem zwsG_good : ∀ w ∈ zwsG, w ∈ zwsG ∧ ((w.onTables && w.keeps) = true ∨ ∃ ty, w = .arrayClass ty) := fun w hw => ⟨hw, good_of_word (List.mem_filter.mp hw).2⟩
theorem zmeth {a : Nat} (h1 : 1 ≤ a) (h2 : a ≤ 283) : Cond.code (zyn a) (zbytes a) (zmaxl a) (zretT a) ∈ zwsG ∧ (bif Z_zms a then Cond.static (zyn a) else Cond.instanceMethod (zyn a)) ∈ zwsG ∧ (zsel a = true → Cond.selects (zyn a).cls (zyn a) (zyn a) ∈ zwsG) ∧ Cond.initialized (zyn a).cls ∈ zwsG ∧
    zon (zow a) = (zyn a).cls ∧ zmaxl a ≤ 20 ∧ plainName (zyn a).cls = true ∧ (zyn a).cls ≠ "java/lang/invoke/MethodHandle" ∧ (zyn a).cls ≠ "java/lang/invoke/VarHandle" := by
  have hd : Z_zcd a := zd_283 a h1 (by omega)
  have h := zW_ok a h1 h2
  unfold zckW at h
  unfold Z_zcd at hd
  unfold zsel
  generalize hz : zmw a = z at h hd ⊢
  obtain ⟨q1, q2, q3, q4⟩ := z
  simp only [Bool.and_eq_true, decide_eq_true_eq] at h
  obtain ⟨⟨⟨⟨⟨⟨⟨g1, g2⟩, g3⟩, g4⟩, g5⟩, g6⟩, g7⟩, g8⟩ := h
  refine ⟨zword hd rfl, zword g1 (by cases Z_zms a <;> rfl), fun hs => ?_, zword g3 rfl, g4, Nat.le_of_ble_eq_true g5, g6, g7, g8⟩
  match q3, g2, hs with
  | 0, _, hs => cases hs
  | q + 1, g2, _ => exact zword (by simpa using g2) rfl
theorem zentL (A : List zV) : (lg_sl (A.map (zvV G))).length = (zent A).length := by
  induction A with
  | nil => rfl
  | cons v A ih =>
    obtain x | x | x := v
    · simp only [List.map_cons, lg_sl, List.flatMap_cons] at ih ⊢
      rw [if_neg (by rw [zcat1 (G := G) (v := .inl x) rfl]; decide)]
      simp only [List.length_append, ih, zent, List.length_cons, List.length_nil]; omega
    · simp only [List.map_cons, lg_sl, List.flatMap_cons] at ih ⊢
      rw [if_pos (show (zvV G (.inr (.inl x))).category = 2 from rfl)]
      simp only [List.length_append, ih, zent, List.length_cons, List.length_nil]; omega
    · simp only [List.map_cons, lg_sl, List.flatMap_cons] at ih ⊢
      rw [if_neg (by rw [zcat1 (G := G) (v := .inr (.inr x)) rfl]; decide)]
      simp only [List.length_append, ih, zent, List.length_cons, List.length_nil]; omega
theorem zpad_len (L : zL) : ∀ n, (zpad n L).length = n := by
  intro n
  induction n generalizing L with
  | zero => rfl
  | succ n ih => cases L <;> simp [zpad, ih]
theorem zget_pad : ∀ (n : Nat) (L : zL) (i : Nat) (v : zV), zget (zpad n L) i = some v → zget L i = some v := by
  intro n
  induction n with
  | zero => intro L i v h; cases h
  | succ n ih =>
    intro L i v h
    cases L with
    | nil => cases i with
      | zero => cases h
      | succ i => exact absurd (ih [] i v h) (by simp [zget])
    | cons x L => cases i with
      | zero => exact h
      | succ i => exact ih L i v h
theorem zget_ent : ∀ (A : List zV) (j i : Nat) (v : zV), zget (zent A) i = some v → (j + i, zvV G v) ∈ lv_args j (A.map (zvV G)) ∧ v ∈ A := by
  intro A
  induction A with
  | nil => intro j i v h; cases h
  | cons x A ih =>
    intro j i v h
    obtain y | y | y := x
    · cases i with
      | zero => cases h; exact ⟨List.mem_cons_self, List.mem_cons_self⟩
      | succ i =>
        obtain ⟨g1, g2⟩ := ih (j + 1) i v h
        refine ⟨List.mem_cons_of_mem _ ?_, List.mem_cons_of_mem _ g2⟩
        rw [if_neg (by rw [zcat1 (G := G) (v := .inl y) rfl]; decide)]
        rw [show j + (i + 1) = j + 1 + i by omega]; exact g1
    · cases i with
      | zero => cases h; exact ⟨List.mem_cons_self, List.mem_cons_self⟩
      | succ i => cases i with
        | zero => cases h
        | succ i =>
          obtain ⟨g1, g2⟩ := ih (j + 2) i v h
          refine ⟨List.mem_cons_of_mem _ ?_, List.mem_cons_of_mem _ g2⟩
          rw [if_pos (show (zvV G (.inr (.inl y))).category = 2 from rfl)]
          rw [show j + (i + 1 + 1) = j + 2 + i by omega]; exact g1
    · cases i with
      | zero => cases h; exact ⟨List.mem_cons_self, List.mem_cons_self⟩
      | succ i =>
        obtain ⟨g1, g2⟩ := ih (j + 1) i v h
        refine ⟨List.mem_cons_of_mem _ ?_, List.mem_cons_of_mem _ g2⟩
        rw [if_neg (by rw [zcat1 (G := G) (v := .inr (.inr y)) rfl]; decide)]
        rw [show j + (i + 1) = j + 1 + i by omega]; exact g1
def zPc (G : zG) (A : List zV) (m : zM) (h : zH) : Array Value → State → Prop := fun av U => av = (A.map (zvV G)).toArray ∧ zRel G m h U.heap ∧ zK G U
def zQc (G : zG) (r : Option zV) (m1 : zM) (h1 : zH) : Array Value → State → Outcome → State → Prop := fun _ _ o t => o = .returned (r.map (zvV G)) ∧ (∀ v, r = some v → zrg v) ∧ zRel G m1 h1 t.heap
abbrev Z_zrm (d c s : Nat) : Room := { frames := d + 3, cells := c, slots := s, locals := (d + 3) * 40 }
theorem zMet {d a : Nat} {A : List zV} {m m1 : zM} {h h1 : zH} {r : Option zV} (h1a : 1 ≤ a) (h2a : a ≤ 283) (hA : ∀ v ∈ A, zrg v) (hlen : (zent A).length ≤ zmaxl a) (hok : Z_zrok a r) (hrun : zRun G l d a 0 (zpad (zmaxl a) (zent A)) [] m h r m1 h1) :
    Met l (zyn a) (Cond.code (zyn a) (zbytes a) (zmaxl a) (zretT a) :: zwsG) (Z_zrm d (nx h1 - nx h).toNat (su h1 - su h).toNat) (zPc G A m h) (zQc G r m1 h1) (nx h1 - nx h).toNat (su h1 - su h).toNat (zA G) := by
  obtain ⟨w1, w2, w3, w4, w5, w6, w7, w8, w9⟩ := zmeth h1a h2a
  refine Met.ofW (cc := zbytes a) (maxL := zmaxl a) (ret := zretT a) w7 rfl ?_
  intro p e s mid args below meth c s₁ B hml hP
  obtain ⟨rfl, hR, hK⟩ := hP
  have hts := atoms_spec (ws := Cond.code (zyn a) (zbytes a) (zmaxl a) (zretT a) :: zwsG) B.pre
  have hat : zAt G a p s mid (A.map (zvV G)).toArray meth c := ⟨B.exec, B.bytes, hml, B.returns, B.notSynchronized, by rw [w5]; exact findClass_of_methodNamed B.named, fun hnm => (name_of_methodNamed B.named B.method).1.trans hnm, fun w hw => hts w (List.mem_cons_of_mem _ hw), hK⟩
  have hl := lv_entry (A.map (zvV G)) (n := zmaxl a) (by rw [zentL]; exact hlen)
  rw [lg_entry_eq]
  generalize (lg_sl (A.map (zvV G)) ++ List.replicate (zmaxl a - (lg_sl (A.map (zvV G))).length) Slot.unset).toArray = ls at hl ⊢
  have hlr : zlR G ls (zmaxl a) (zpad (zmaxl a) (zent A)) := ⟨hl.1, hl.2.1, zpad_len _ _, fun i v hv => by
    obtain ⟨g1, g2⟩ := zget_ent (G := G) A 0 i v (zget_pad _ _ _ _ hv)
    rw [Nat.zero_add] at g1
    exact ⟨hl.2.2 _ g1, hA v g2⟩⟩
  refine hrun p e _ s mid _ below meth c s.heap [] 0 0 _ ls hat hlr (fun v hv => by cases hv) hR ⟨Nat.le_refl _, fun _ _ _ => rfl, fun _ h => by cases h⟩ (Nat.le_refl _) (Nat.le_refl _) (by rw [Nat.zero_add]; exact Nat.le_refl _) (by rw [Nat.zero_add]; exact Nat.le_refl _) (fun pc' ls' H' locs' hd hrr hR' hV' => ?_)
  rw [Nat.zero_add, Nat.zero_add]
  obtain ⟨hx, hb, -, hret, hlk, -⟩ := hat
  have hfin : ∀ t : State, t.heap = H' → zQc G r m1 h1 (A.map (zvV G)).toArray s (.returned (r.map (zvV G))) t := fun t ht => ⟨rfl, hrr, by rw [ht]; exact hR'⟩
  match r, hok, hd, hfin, hrr with
  | none, hok, hd, hfin, hrr => exact W.vret hx hb (hret.trans hok) (fun t ht _ => hfin t ht) hV'.2.2 hd hlk
  | some (.inl x), hok, hd, hfin, hrr =>
    have hxr : zri x := hrr _ rfl
    have hn : ∃ ty, meth.sig.returnType = some ty ∧ narrow ty (.int (Int32.ofInt x)) = .int (Int32.ofInt x) := by
      rcases hok with q | ⟨q, q2⟩ | ⟨q, q2, q3⟩ | ⟨q, q2, q3⟩
      · exact ⟨_, hret.trans q, rfl⟩
      · refine ⟨_, hret.trans q, ?_⟩
        rcases q2 with rfl | rfl <;> rfl
      · refine ⟨_, hret.trans q, ?_⟩
        have := (pk_charN (q := x.toNat) (by omega)).1
        rw [show nI x.toNat = Int32.ofInt x from by
          apply Int32.toInt_inj.mp
          rw [nI_toInt (by omega), zi_of hxr]; omega] at this
        exact this
      · refine ⟨_, hret.trans q, ?_⟩
        show Value.int _ = Value.int _
        congr 1
        apply Int32.toInt_inj.mp
        rw [Int8.toInt_toInt32, Int32.toInt_toInt8, zi_of hxr]
        exact Int.bmod_eq_of_le (by omega) (by omega)
    obtain ⟨ty, g1, g2⟩ := hn
    exact W.zret hx hb g1 g2 (fun t ht _ => hfin t ht) hV'.2.2 hd hlk
  | some (.inr (.inl x)), hok, hd, hfin, hrr => exact W.lret hx hb (hret.trans hok) (fun t ht _ => hfin t ht) hV'.2.2 hd hlk
  | some (.inr (.inr x)), hok, hd, hfin, hrr =>
    obtain ⟨ty, g1, g2⟩ := hok
    exact W.aret hx hb (hret.trans g1) g2 (by show (if x = 0 then Value.null else .ref (zad G x)) = .null ∨ ∃ a, (if x = 0 then Value.null else .ref (zad G x)) = .ref a; split; exact Or.inl rfl; exact Or.inr ⟨_, rfl⟩) (fun t ht _ => hfin t ht) hV'.2.2 hd hlk
end ZQ

/-! THE READING: the machine of tokens, pure, and the class's pile of operators. -/
def zrk (o : Int) : Int := zRk.getD o.toNat 0
/-- operators are put out down to a rank; the pile's top comes first -/
def cem (r : Int) : List Int → List Int → List Int × List Int
  | [], cs => ([], cs)
  | o :: st, cs => if zrk o < r then (o :: st, cs) else cem r st (cs ++ [20000 + o])
theorem cem_sum (r : Int) : ∀ st cs, (cem r st cs).1.length + (cem r st cs).2.length = st.length + cs.length
  | [], cs => rfl
  | o :: st, cs => by
    unfold cem
    split
    · rfl
    · rw [cem_sum r st, List.length_append, List.length_singleton, List.length_cons]; omega
theorem cem_in (r : Int) : ∀ st cs, ∀ o ∈ (cem r st cs).1, o ∈ st
  | [], cs, o, h => h
  | x :: st, cs, o, h => by
    unfold cem at h
    split at h
    · exact h
    · exact List.mem_cons_of_mem _ (cem_in r st _ o h)
/-- a rule under way: its sort, its name once told, where its value, its condition and its end lie -/
abbrev zRu : Type := Int × Option (List Int) × Nat × Nat × Nat
/-- what is awaited, which part, how deep, how many tokens, the pile, the codes, the rules, the day, its place -/
abbrev zCS : Type := Int × Int × Nat × Nat × List Int × List Int × List zRu × Int × Nat
def crw (k : Int) : Prop := k = 21 ∨ 23 ≤ k ∧ k ≤ 27
def cun (k : Int) : Prop := k = 2 ∨ k = 6 ∨ 31 ≤ k
def car (k : Int) : Prop := k = 8 ∨ k = 9 ∨ k = 10 ∨ k = 15
/-- whether a kind goes on -/
def cgo (aw part : Int) (dep : Nat) (k : Int) : Prop :=
  if aw = 0 then k = 20 ∨ crw k ∨ k = 0 else if aw = 1 then k = 2 else if aw = 2 then k = 4 else if aw = 3 then crw k ∨ k = 0 else if aw = 4 then k = 1 else if aw = 5 then k = 22 else if aw = 6 then k = 30 ∨ cun k else if aw = 7 then cun k else
  car k ∨ (if 0 < dep then k = 7 else if part = 0 then k = 22 ∨ k = 4 else if part = 1 then 11 ≤ k ∧ k ≤ 14 else k = 28 ∨ k = 29 ∨ k = 4)
/-- whether there is no room for it -/
def cfu (dep tk rn : Nat) (k : Int) : Prop := k ≠ 0 ∧ 400 ≤ tk ∨ crw k ∧ 24 ≤ rn ∨ k = 6 ∧ 6 ≤ dep
def zru0 : zRu := (0, none, 0, 0, 0)
def clst (rs : List zRu) : zRu := rs.getD (rs.length - 1) zru0
def cup (rs : List zRu) (f : zRu → zRu) : List zRu := rs.set (rs.length - 1) (f (clst rs))
/-- the stack in memory, the top first -/
def xStk (m : zM) : List Int → Prop
  | [] => True
  | o :: st => m 18 (st.length : Int) = o ∧ xStk m st
theorem xStk_fr {m m1 : zM} : ∀ (st : List Int), (∀ j : Int, j < st.length → m1 18 j = m 18 j) → xStk m st → xStk m1 st
  | [], _, _ => trivial
  | o :: st, w, h => ⟨by rw [w _ (by rw [List.length_cons]; omega)]; exact h.1, xStk_fr st (fun j hj => w j (by rw [List.length_cons]; omega)) h.2⟩
def xCds (m : zM) (p : Int) (cs : List Int) : Prop := (m p 6) = (cs.length : Int) ∧ ∀ i : Nat, i < cs.length → m (p + 1) (i : Int) = cs.getD i 0
theorem c_Tx_emit {d : Nat} {p c : Int} {cs : List Int} {m : zM} {h : zH} {Q : zQ} (T : ztx m h p) (C : xCds m p cs) (hl : cs.length < 400)
    (K : ∀ m' : zM, (∀ i j, ¬ (i = p + 1 ∧ j = (cs.length : Int)) → ¬ (i = p ∧ j = 6) → m' i j = m i j) → xCds m' p (cs ++ [c]) → Q none m' h) : zcal WP (d + 1) n_Tx_emit [.inr (.inr p), .inl c] m h Q := by
  obtain ⟨tp, tn, tk, ⟨t0, t1, t2, t3, t4, t5⟩, ⟨u1, u2⟩, _⟩ := T
  obtain ⟨c1, c2⟩ := C
  apply e_Tx_emit
  apply s_Tx_emit_0
  rw [c1, t0]
  refine ⟨tk, fun z => by omega, fun _ => ⟨tk, tk, u1, by omega, by omega, by rw [u2]; omega, fun m1 e1 => ?_⟩⟩
  have c11 : m1 p 6 = (cs.length : Int) := by rw [e1, zwr_ap, if_neg (by omega)]; exact c1
  rw [c11, w32_id (by omega) (by omega)]
  refine ⟨tk, tk, by omega, fun m2 e2 => K m2 (fun i j y1 y2 => by rw [e2, zwr_ap, if_neg y2, e1, zwr_ap, if_neg y1]) ⟨?_, fun i hi => ?_⟩⟩
  · rw [e2, zwr_eq, List.length_append, List.length_singleton]; omega
  · rw [List.length_append, List.length_singleton] at hi
    rw [gd_app, e2, zwr_ap, if_neg (by omega)]
    by_cases z : i < cs.length
    · rw [if_pos z, e1, zwr_ap, if_neg (by omega)]; exact c2 i z
    · rw [if_neg z, if_pos (by omega), show i = cs.length by omega, e1, zwr_eq]
/-- what the pile's work changes -/
def xpw (p : Int) (m m1 : zM) : Prop := ∀ i j, i ≠ 18 → i ≠ p + 1 → ¬ (i = 9 ∧ j = 5) → ¬ (i = p ∧ j = 6) → m1 i j = m i j
theorem ztx_f {m m1 : zM} {h : zH} {p : Int} (T : ztx m h p) (w : ∀ j, j < 6 → m1 p j = m p j) : ztx m1 h p := by
  obtain ⟨tp, tn, tk, ⟨t0, t1, t2, t3, t4, t5⟩, r⟩ := T
  exact ⟨tp, tn, tk, ⟨by rw [w 0 (by decide)]; exact t0, by rw [w 1 (by decide)]; exact t1, by rw [w 2 (by decide)]; exact t2, by rw [w 3 (by decide)]; exact t3, by rw [w 4 (by decide)]; exact t4, by rw [w 5 (by decide)]; exact t5⟩, r⟩
theorem zrk_at {m : zM} {h : zH} (S : zStr m h) {o : Int} (ho : 0 ≤ o ∧ o ≤ 11) : m (-2) o = zrk o := by
  have := S.2 o.toNat (by omega)
  rw [show ((o.toNat : Nat) : Int) = o by omega] at this
  exact this
set_option maxHeartbeats 1000000 in
theorem c_Rd_emitDownTo {d : Nat} {p r : Int} {h : zH} {Q : zQ} (L : zLay h) (hd : 11 ≤ p) :
    ∀ (st cs : List Int) (m0 m : zM), zFix m → zStr m h → ztx m h p → (m 9 3) = p → xpw p m0 m → xCds m p cs → (m 9 5) = (st.length : Int) → xStk m st → (∀ o ∈ st, 0 ≤ o ∧ o ≤ 11) → st.length + cs.length ≤ 400 →
    (∀ m' : zM, xpw p m0 m' → xCds m' p (cem r st cs).2 → (m' 9 5) = ((cem r st cs).1.length : Int) → xStk m' (cem r st cs).1 → Q none m' h) → q_Rd_emitDownTo_0 (d + 1) 9 r m h Q
  | [], cs, m0, m, F, S, T, hp, w, C, hw, hs, ho, hl, K => by
    apply s_Rd_emitDownTo_0
    rw [hw]
    exact ⟨k9 L, fun _ => K m w C hw hs, fun z => absurd (by decide) z⟩
  | o :: st, cs, m0, m, F, S, T, hp, w, C, hw, hs, ho, hl, K => by
    have o1 := ho o (by simp)
    rw [List.length_cons] at hl hw
    have n18 : p ≠ 18 ∧ p + 1 ≠ 18 ∧ p ≠ 9 ∧ p + 1 ≠ 9 := by have := T.1; omega
    apply s_Rd_emitDownTo_0
    rw [hw, f9_4 F, w32_id (x := ((st.length + 1 : Nat) : Int) - 1) (by omega) (by omega), show ((st.length + 1 : Nat) : Int) - 1 = (st.length : Int) by omega, hs.1, zrk_at S o1]
    refine ⟨k9 L, fun z => by omega, fun _ => ⟨k9 L, k9 L, k18 L, by omega, by rw [l18 L]; omega, L.2.1.1, o1.1, by rw [L.2.1.2.1]; omega, fun z => ?_, fun z => ⟨k9 L, k9 L, by decide, fun m1 e1 => ?_⟩⟩⟩
    · unfold cem at K
      rw [if_pos z] at K
      exact K m w C (by rw [hw, List.length_cons]) hs
    · unfold cem at K
      rw [if_neg z] at K
      have w1 : ∀ i j, ¬ (i = 9 ∧ j = 5) → m1 i j = m i j := fun i j y => by rw [e1, zwr_ap, if_neg y]
      have F1 : zFix m1 := by rw [e1]; exact zFix_wr F rfl
      have S1 := zStr_fr S (fun i j hi => w1 i j (by omega))
      have T1 : ztx m1 h p := ztx_f T (fun j _ => w1 _ _ (by omega))
      have C1 : xCds m1 p cs := ⟨by rw [w1 _ _ (by omega)]; exact C.1, fun i hi => by rw [w1 _ _ (by omega)]; exact C.2 i hi⟩
      have v1 : m1 9 5 = (st.length : Int) := by rw [e1, zwr_eq]
      have hp1 : m1 9 3 = p := by rw [w1 _ _ (by omega)]; exact hp
      rw [v1, f9_4 F1, hp1, w1 18 _ (by omega), hs.1, w32_id (x := 20000 + o) (by omega) (by omega)]
      refine ⟨k9 L, k9 L, k9 L, k18 L, by omega, by rw [l18 L]; omega, T.2.2.1, ?_⟩
      refine c_Tx_emit T1 C1 (by omega) fun m2 w2 C2 => ⟨rfl, ?_⟩
      have F2 : zFix m2 := fun i j q => by
        have ob := zrv_ob q
        have t := T.1
        rw [w2 i j (by omega) (by omega)]
        exact F1 i j q
      dsimp only
      refine c_Rd_emitDownTo L hd st (cs ++ [20000 + o]) m0 m2 F2 (zStr_fr S1 (fun i j hi => w2 i j (by omega) (by omega))) (ztx_f T1 (fun j hj => w2 _ _ (by omega) (by omega))) (by rw [w2 _ _ (by omega) (by omega)]; exact hp1) (fun i j y1 y2 y3 y4 => by rw [w2 i j (by omega) y4, w1 i j y3]; exact w i j y1 y2 y3 y4) C2 (by rw [w2 _ _ (by omega) (by omega)]; exact v1) (xStk_fr st (fun j _ => by rw [w2 _ _ (by omega) (by omega), w1 _ _ (by omega)]) hs.2) (fun x hx => ho x (by simp [hx])) (by rw [List.length_append, List.length_singleton]; omega) K

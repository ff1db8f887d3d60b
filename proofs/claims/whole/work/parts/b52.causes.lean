/-! CAUSES: the fewest sets, told in the same order whether bits that nobody has are left out or not. -/
def zhit (cs : List Nat) (set : Nat) : Bool := cs.all (fun o => o &&& set != 0)
def zstp (cs : List Nat) (i : Int) (set : Nat) (a : Int × Int) : Int × Int := if zhit cs set = true then (a.1 + 1, if a.1 = i then (set : Int) else a.2) else a
def zpk (S : Nat → Bool) (cs : List Nat) (i : Int) : Nat → Nat → Nat → Int × Int → Int × Int
  | 0, l, set, a => if l = 0 then zstp cs i set a else a
  | t + 1, l, set, a => if l = 0 then zstp cs i set a else zpk S cs i t l set (if S (23 - t) = true then zpk S cs i t (l - 1) (set ||| 2 ^ (23 - t)) a else a)
def zAll : Nat → Bool := fun _ => true
def znh2 (cs : List Nat) : Nat → Nat → Nat → Prop
  | 0, l, set => l = 0 → zhit cs set = false
  | t + 1, l, set => if l = 0 then zhit cs set = false else znh2 cs t l set ∧ znh2 cs t (l - 1) (set ||| 2 ^ (23 - t))
theorem zpk_0 {S : Nat → Bool} {cs : List Nat} {i : Int} (t set : Nat) (a : Int × Int) : zpk S cs i t 0 set a = zstp cs i set a := by cases t <;> rfl
theorem znh_0 {cs : List Nat} (t set : Nat) : znh2 cs t 0 set ↔ zhit cs set = false := by
  cases t
  · exact ⟨fun q => q rfl, fun q _ => q⟩
  · unfold znh2; rw [if_pos rfl]
theorem zpk_s {S : Nat → Bool} {cs : List Nat} {i : Int} (t l set : Nat) (a : Int × Int) : zpk S cs i (t + 1) (l + 1) set a = zpk S cs i t (l + 1) set (if S (23 - t) = true then zpk S cs i t l (set ||| 2 ^ (23 - t)) a else a) := by
  show (if l + 1 = 0 then _ else _) = _
  rw [if_neg (by omega)]
  rfl
theorem zpk_a {cs : List Nat} {i : Int} (t l set : Nat) (a : Int × Int) : zpk zAll cs i (t + 1) (l + 1) set a = zpk zAll cs i t (l + 1) set (zpk zAll cs i t l (set ||| 2 ^ (23 - t)) a) := by
  rw [zpk_s]; rfl
theorem znh_s {cs : List Nat} (t l set : Nat) : znh2 cs (t + 1) (l + 1) set ↔ znh2 cs t (l + 1) set ∧ znh2 cs t l (set ||| 2 ^ (23 - t)) := by
  show (if l + 1 = 0 then _ else _) ↔ _
  rw [if_neg (by omega)]
  rfl
theorem zstp_n {cs : List Nat} {i : Int} {set : Nat} {a : Int × Int} (h : zhit cs set = false) : zstp cs i set a = a := by unfold zstp; rw [h]; rfl
theorem zpk_nh {cs : List Nat} {i : Int} : ∀ (t l set : Nat) (a : Int × Int), znh2 cs t l set → zpk zAll cs i t l set a = a
  | t, 0, set, a, h => by rw [zpk_0]; exact zstp_n ((znh_0 t set).1 h)
  | 0, l + 1, set, a, h => rfl
  | t + 1, l + 1, set, a, h => by
    rw [znh_s] at h
    rw [zpk_a, zpk_nh t (l + 1) set _ h.1, zpk_nh t l _ _ h.2]
theorem zhit_or {cs : List Nat} {b : Nat} (h : ∀ o ∈ cs, o.testBit b = false) (set : Nat) : zhit cs (set ||| 2 ^ b) = zhit cs set := by
  unfold zhit
  have e : ∀ o ∈ cs, (o &&& (set ||| 2 ^ b)) = (o &&& set) := fun o ho => by
    apply Nat.eq_of_testBit_eq
    intro k
    rw [Nat.testBit_and, Nat.testBit_and, tb_or]
    by_cases z : b = k
    · subst z; rw [h o ho]; rfl
    · simp [z]
  apply Bool.eq_iff_iff.2
  simp only [List.all_eq_true]
  exact ⟨fun q o ho => by rw [← e o ho]; exact q o ho, fun q o ho => by rw [e o ho]; exact q o ho⟩
theorem or_sw (a b c : Nat) : a ||| b ||| c = a ||| c ||| b := by rw [Nat.or_assoc, Nat.or_comm b c, ← Nat.or_assoc]
theorem znh_or {cs : List Nat} {b : Nat} (h : ∀ o ∈ cs, o.testBit b = false) : ∀ (t l set : Nat), znh2 cs t l set → znh2 cs t l (set ||| 2 ^ b)
  | t, 0, set, q => by rw [znh_0] at *; rw [zhit_or h]; exact q
  | 0, l + 1, set, q => fun z => by omega
  | t + 1, l + 1, set, q => by
    rw [znh_s] at *
    refine ⟨znh_or h t (l + 1) set q.1, ?_⟩
    rw [or_sw]
    exact znh_or h t l _ q.2
theorem znh_d {cs : List Nat} (t l set : Nat) (q : znh2 cs (t + 1) l set) : znh2 cs t l set := by
  cases l with
  | zero => rw [znh_0] at *; exact q
  | succ l => rw [znh_s] at q; exact q.1
theorem zpk_eq {S : Nat → Bool} {cs : List Nat} {i : Int} (hS : ∀ b, S b = false → ∀ o ∈ cs, o.testBit b = false) : ∀ (t l set : Nat) (a : Int × Int), (l ≠ 0 → znh2 cs t (l - 1) set) → zpk S cs i t l set a = zpk zAll cs i t l set a
  | t, 0, set, a, h => by rw [zpk_0, zpk_0]
  | 0, l + 1, set, a, h => rfl
  | t + 1, l + 1, set, a, h => by
    have h := h (by omega)
    rw [show l + 1 - 1 = l by omega] at h
    rw [zpk_a, zpk_s]
    have e : (if S (23 - t) = true then zpk S cs i t l (set ||| 2 ^ (23 - t)) a else a) = zpk zAll cs i t l (set ||| 2 ^ (23 - t)) a := by
      by_cases z : S (23 - t) = true
      · rw [if_pos z]
        refine zpk_eq hS t l _ a (fun y => ?_)
        cases l with
        | zero => exact absurd rfl y
        | succ l => rw [znh_s] at h; exact h.2
      · rw [if_neg z]
        exact (zpk_nh t l _ a (znh_or (hS _ (by simpa using z)) t l set (znh_d t l set h))).symm
    rw [e]
    exact zpk_eq hS t (l + 1) set _ (fun _ => znh_d t l set h)
theorem zstp_r {cs : List Nat} {i : Int} {set : Nat} {a : Int × Int} : a.1 ≤ (zstp cs i set a).1 ∧ (zstp cs i set a).1 ≤ a.1 + 1 ∧ ((zstp cs i set a).1 = a.1 → zhit cs set = false ∧ zstp cs i set a = a) := by
  unfold zstp
  by_cases z : zhit cs set = true
  · rw [if_pos z]
    refine ⟨by show a.1 ≤ a.1 + 1; omega, by show a.1 + 1 ≤ _; omega, fun y => ?_⟩
    have y : a.1 + 1 = a.1 := y
    omega
  · rw [if_neg z]
    exact ⟨by omega, by omega, fun _ => ⟨by simpa using z, rfl⟩⟩
theorem zpk_r {S : Nat → Bool} {cs : List Nat} {i : Int} : ∀ (t l set : Nat) (a : Int × Int), a.1 ≤ (zpk S cs i t l set a).1 ∧ (zpk S cs i t l set a).1 ≤ a.1 + 2 ^ t
  | t, 0, set, a => by
    rw [zpk_0]
    have := zstp_r (cs := cs) (i := i) (set := set) (a := a)
    have p : (1 : Int) ≤ 2 ^ t := by
      have := Nat.one_le_two_pow (n := t)
      exact_mod_cast this
    omega
  | 0, l + 1, set, a => by
    show a.1 ≤ a.1 ∧ a.1 ≤ a.1 + 1
    omega
  | t + 1, l + 1, set, a => by
    rw [zpk_s, Int.pow_succ]
    have x : a.1 ≤ (if S (23 - t) = true then zpk S cs i t l (set ||| 2 ^ (23 - t)) a else a).1 ∧ (if S (23 - t) = true then zpk S cs i t l (set ||| 2 ^ (23 - t)) a else a).1 ≤ a.1 + 2 ^ t := by
      split
      · exact zpk_r t l _ a
      · have p : (1 : Int) ≤ 2 ^ t := by
          have := Nat.one_le_two_pow (n := t)
          exact_mod_cast this
        omega
    have y := zpk_r (S := S) (cs := cs) (i := i) t (l + 1) set (if S (23 - t) = true then zpk S cs i t l (set ||| 2 ^ (23 - t)) a else a)
    omega
theorem zpk_no {cs : List Nat} {i : Int} : ∀ (t l set : Nat) (a : Int × Int), (zpk zAll cs i t l set a).1 = a.1 → znh2 cs t l set ∧ zpk zAll cs i t l set a = a
  | t, 0, set, a, h => by
    rw [zpk_0] at *
    rw [znh_0]
    exact zstp_r.2.2 h
  | 0, l + 1, set, a, h => ⟨fun z => by omega, rfl⟩
  | t + 1, l + 1, set, a, h => by
    rw [zpk_a] at *
    have r1 := (zpk_r (S := zAll) (cs := cs) (i := i) t l (set ||| 2 ^ (23 - t)) a).1
    have r2 := (zpk_r (S := zAll) (cs := cs) (i := i) t (l + 1) set (zpk zAll cs i t l (set ||| 2 ^ (23 - t)) a)).1
    have a1 := zpk_no (cs := cs) (i := i) t l (set ||| 2 ^ (23 - t)) a (by omega)
    rw [a1.2] at h ⊢
    have a2 := zpk_no (cs := cs) (i := i) t (l + 1) set a h
    rw [znh_s]
    exact ⟨⟨a2.1, a1.1⟩, a2.2⟩
theorem zpk_id {S : Nat → Bool} {cs : List Nat} {i : Int} : ∀ (t l set : Nat) (a : Int × Int), (zpk S cs i t l set a).1 = a.1 → zpk S cs i t l set a = a
  | t, 0, set, a, h => by
    rw [zpk_0] at *
    exact (zstp_r.2.2 h).2
  | 0, l + 1, set, a, h => rfl
  | t + 1, l + 1, set, a, h => by
    rw [zpk_s] at *
    have r2 := (zpk_r (S := S) (cs := cs) (i := i) t (l + 1) set (if S (23 - t) = true then zpk S cs i t l (set ||| 2 ^ (23 - t)) a else a)).1
    have e : (if S (23 - t) = true then zpk S cs i t l (set ||| 2 ^ (23 - t)) a else a) = a := by
      by_cases z : S (23 - t) = true
      · rw [if_pos z] at *
        have r1 := (zpk_r (S := S) (cs := cs) (i := i) t l (set ||| 2 ^ (23 - t)) a).1
        exact zpk_id t l _ a (by omega)
      · rw [if_neg z]
    rw [e] at h ⊢
    exact zpk_id t (l + 1) set a h
theorem zpk_f {S : Nat → Bool} {cs : List Nat} : ∀ (t l set : Nat) (a : Int × Int), 0 ≤ a.1 → (zpk S cs (-1) t l set a).2 = a.2
  | t, 0, set, a, h => by
    rw [zpk_0]
    unfold zstp
    split
    · show (if a.1 = -1 then _ else _) = _
      rw [if_neg (by omega)]
    · rfl
  | 0, l + 1, set, a, h => rfl
  | t + 1, l + 1, set, a, h => by
    rw [zpk_s]
    by_cases z : S (23 - t) = true
    · rw [if_pos z]
      have r1 := (zpk_r (S := S) (cs := cs) (i := -1) t l (set ||| 2 ^ (23 - t)) a).1
      rw [zpk_f t (l + 1) set _ (by omega), zpk_f t l _ a h]
    · rw [if_neg z]
      exact zpk_f t (l + 1) set a h
/-- sets of one, two, three -/
def zsr (S : Nat → Bool) (cs : List Nat) (i : Int) : Int × Int :=
  if (zpk S cs i 24 1 0 (0, -1)).1 ≠ 0 then zpk S cs i 24 1 0 (0, -1) else
  if (zpk S cs i 24 2 0 (0, -1)).1 ≠ 0 then zpk S cs i 24 2 0 (0, -1) else zpk S cs i 24 3 0 (0, -1)
theorem zsr_eq {S : Nat → Bool} {cs : List Nat} {i : Int} (hS : ∀ b, S b = false → ∀ o ∈ cs, o.testBit b = false) (hc : cs ≠ []) : zsr S cs i = zsr zAll cs i := by
  have h0 : zhit cs 0 = false := by
    cases cs with
    | nil => exact absurd rfl hc
    | cons o l => simp [zhit]
  have e1 := zpk_eq (i := i) hS 24 1 0 (0, -1) (fun _ => (znh_0 24 0).2 h0)
  unfold zsr
  rw [e1]
  by_cases y : (zpk zAll cs i 24 1 0 (0, -1)).1 ≠ 0
  · rw [if_pos y, if_pos y]
  · rw [if_neg y, if_neg y]
    have n1 := (zpk_no (cs := cs) (i := i) 24 1 0 (0, -1) (by show _ = (0 : Int); omega)).1
    have e2 := zpk_eq (i := i) hS 24 2 0 (0, -1) (fun _ => n1)
    rw [e2]
    by_cases y2 : (zpk zAll cs i 24 2 0 (0, -1)).1 ≠ 0
    · rw [if_pos y2, if_pos y2]
    · rw [if_neg y2, if_neg y2]
      have n2 := (zpk_no (cs := cs) (i := i) 24 2 0 (0, -1) (by show _ = (0 : Int); omega)).1
      exact zpk_eq (i := i) hS 24 3 0 (0, -1) (fun _ => n2)
theorem zsr_f {S : Nat → Bool} {cs : List Nat} : (zsr S cs (-1)).2 = -1 := by
  unfold zsr
  split
  · exact zpk_f 24 1 0 (0, -1) (by decide)
  · split
    · exact zpk_f 24 2 0 (0, -1) (by decide)
    · exact zpk_f 24 3 0 (0, -1) (by decide)
theorem zsr_own {cs ow : List Nat} (h : ∀ o, o ∈ ow ↔ o ∈ cs) (set : Nat) : zhit ow set = zhit cs set := by
  unfold zhit
  apply Bool.eq_iff_iff.2
  simp only [List.all_eq_true]
  exact ⟨fun q o ho => q o ((h o).2 ho), fun q o ho => q o ((h o).1 ho)⟩
/-- the causes of a failure; of those among the first k facts -/
def zc1 (g s : zM) (k : Int) : Nat := (2 ^ ((g 83 ((g 96 k)))).toNat ||| 2 ^ (8 + (s 125 k)).toNat) ||| (if (s 126 k) = -1 then 0 else 2 ^ (16 + (s 126 k)).toNat)
def zcs2 (g s : zM) : Nat → List Nat
  | 0 => []
  | k + 1 => if (g 94 ((k : Int))) = 5 ∧ (s 124 ((k : Int))) ≠ 0 then zcs2 g s k ++ [zc1 g s k] else zcs2 g s k
theorem zcs2_len (g s : zM) : ∀ k : Nat, (zcs2 g s k).length ≤ k
  | 0 => by show 0 ≤ 0; omega
  | k + 1 => by
    have := zcs2_len g s k
    unfold zcs2
    split
    · rw [List.length_append]; show _ + 1 ≤ _; omega
    · omega
theorem pow_lt24 : ∀ k : Nat, k < 24 → 2 ^ k < 16777216 := by decide
theorem or_lt24 {a b : Nat} (ha : a < 16777216) (hb : b < 16777216) : a ||| b < 16777216 := Nat.or_lt_two_pow (n := 24) ha hb
theorem zc1_i {g s : zM} {k : Int} (hc : 0 ≤ (g 83 ((g 96 k))) ∧ (g 83 ((g 96 k))) ≤ 5) (hs : 0 ≤ (s 125 k) ∧ (s 125 k) < 5) (hm : (s 126 k) = -1 ∨ 0 ≤ (s 126 k) ∧ (s 126 k) < 8) :
    zor (zor (zshl 1 (g 83 ((g 96 k)))) (zshl 1 (8 + (s 125 k)))) (if (s 126 k) = -1 then 0 else zshl 1 (16 + (s 126 k))) = (zc1 g s k : Int) ∧ zc1 g s k < 16777216 := by
  unfold zc1
  generalize (g 83 ((g 96 k))) = c at *
  generalize (s 125 k) = t at *
  generalize (s 126 k) = u at *
  have e1 : zshl 1 c = ((2 ^ c.toNat : Nat) : Int) := by rw [← zshl_n c.toNat (by omega)]; rw [show ((c.toNat : Nat) : Int) = c by omega]
  have e2 : zshl 1 (8 + t) = ((2 ^ (8 + t).toNat : Nat) : Int) := by rw [← zshl_n (8 + t).toNat (by omega)]; rw [show (((8 + t).toNat : Nat) : Int) = 8 + t by omega]
  have e3 : (if u = -1 then (0 : Int) else zshl 1 (16 + u)) = ((if u = -1 then 0 else 2 ^ (16 + u).toNat : Nat) : Int) := by
    by_cases z : u = -1
    · rw [if_pos z, if_pos z]; rfl
    · rw [if_neg z, if_neg z, ← zshl_n (16 + u).toNat (by omega), show (((16 + u).toNat : Nat) : Int) = 16 + u by omega]
  have p1 := pow_lt24 c.toNat (by omega)
  have p2 := pow_lt24 (8 + t).toNat (by omega)
  have p3 : (if u = -1 then 0 else 2 ^ (16 + u).toNat : Nat) < 16777216 := by
    by_cases z : u = -1
    · rw [if_pos z]; decide
    · rw [if_neg z]; exact pow_lt24 _ (by omega)
  have p12 := or_lt24 p1 p2
  rw [e1, e2, e3, zor_n _ _ (by omega) (by omega), zor_n _ _ (by omega) (by omega)]
  exact ⟨rfl, or_lt24 p12 p3⟩
theorem zcs2_lt {g s : zM} {n : Int} (h : ∀ k, 0 ≤ k → k < n → (g 94 k) = 5 → (s 124 k) ≠ 0 → zc1 g s k < 16777216) : ∀ k : Nat, (k : Int) ≤ n → ∀ o ∈ zcs2 g s k, o < 16777216
  | 0, _, o, ho => by simp [zcs2] at ho
  | k + 1, hk, o, ho => by
    unfold zcs2 at ho
    split at ho
    · rename_i z
      rw [List.mem_append] at ho
      rcases ho with ho | ho
      · exact zcs2_lt h k (by omega) o ho
      · rw [List.mem_singleton] at ho
        rw [ho]; exact h k (by omega) (by omega) z.1 z.2
    · exact zcs2_lt h k (by omega) o ho

/-! RULES IN FORCE: the texts by their days, their rules one after the other. -/
theorem zlcmp0 (x y : Int) : zlcmp x y = 0 ↔ x = y := by
  unfold zlcmp
  constructor
  · intro h; split at h
    · omega
    · split at h
      · assumption
      · omega
  · intro h; subst h; rw [if_neg (by omega), if_pos rfl]
def zenr (b : Int) : List Int → Int
  | [] => 0
  | c :: l => b * zenr b l + c
theorem zenc_r (b : Int) (l : List Int) : zenc b l = zenr b l.reverse := by
  have : ∀ (l : List Int) (x : List Int), l.foldl (fun n c => b * n + c) (zenr b x) = zenr b (l.reverse ++ x) := by
    intro l
    induction l with
    | nil => intro x; rfl
    | cons c l ih => intro x; rw [List.foldl_cons, show b * zenr b x + c = zenr b (c :: x) from rfl, ih]; simp
  have t := this l []
  simpa [zenc, zenr] using t
theorem zenr_inj (b : Int) (hb : 27 ≤ b) : ∀ (x y : List Int), (∀ c ∈ x, 1 ≤ c ∧ c ≤ 26) → (∀ c ∈ y, 1 ≤ c ∧ c ≤ 26) → 0 ≤ zenr b x ∧ 0 ≤ zenr b y ∧ (zenr b x = zenr b y → x = y) := by
  have nn : ∀ x : List Int, (∀ c ∈ x, 1 ≤ c ∧ c ≤ 26) → 0 ≤ zenr b x := by
    intro x
    induction x with
    | nil => intro _; exact Int.le_refl 0
    | cons c x ih =>
      intro h
      have h1 := h c (List.mem_cons_self ..)
      have h2 := ih (fun z hz => h z (List.mem_cons_of_mem _ hz))
      have := Int.mul_nonneg (show 0 ≤ b by omega) h2
      unfold zenr; omega
  intro x
  induction x with
  | nil =>
    intro y hx hy
    refine ⟨nn _ hx, nn _ hy, ?_⟩
    cases y with
    | nil => intro _; rfl
    | cons c y =>
      intro e
      have h1 := hy c (List.mem_cons_self ..)
      have h2 := nn y (fun z hz => hy z (List.mem_cons_of_mem _ hz))
      have := Int.mul_nonneg (show 0 ≤ b by omega) h2
      unfold zenr at e; omega
  | cons c x ih =>
    intro y hx hy
    refine ⟨nn _ hx, nn _ hy, ?_⟩
    have h1 := hx c (List.mem_cons_self ..)
    have h2 : ∀ z ∈ x, 1 ≤ z ∧ z ≤ 26 := fun z hz => hx z (List.mem_cons_of_mem _ hz)
    cases y with
    | nil =>
      intro e
      have := Int.mul_nonneg (show 0 ≤ b by omega) (nn x h2)
      unfold zenr at e; omega
    | cons c' y =>
      intro e
      have h3 := hy c' (List.mem_cons_self ..)
      have h4 : ∀ z ∈ y, 1 ≤ z ∧ z ≤ 26 := fun z hz => hy z (List.mem_cons_of_mem _ hz)
      simp only [zenr] at e
      have hc : c = c' := by
        have a1 : (b * zenr b x + c) % b = c := by rw [Int.add_comm, Int.add_mul_emod_self_left]; exact Int.emod_eq_of_lt (by omega) (by omega)
        have a2 : (b * zenr b y + c') % b = c' := by rw [Int.add_comm, Int.add_mul_emod_self_left]; exact Int.emod_eq_of_lt (by omega) (by omega)
        rw [e] at a1; omega
      subst hc
      have e2 : b * zenr b x = b * zenr b y := by omega
      have e3 : zenr b x = zenr b y := Int.eq_of_mul_eq_mul_left (by omega) e2
      rw [(ih y h2 h4).2.2 e3]
theorem zenc_inj {b : Int} (hb : 27 ≤ b) {x y : List Int} (hx : ∀ c ∈ x, 1 ≤ c ∧ c ≤ 26) (hy : ∀ c ∈ y, 1 ≤ c ∧ c ≤ 26) : zenc b x = zenc b y ↔ x = y := by
  constructor
  · intro e
    rw [zenc_r, zenc_r] at e
    have := (zenr_inj b hb x.reverse y.reverse (fun c h => hx c (List.mem_reverse.1 h)) (fun c h => hy c (List.mem_reverse.1 h))).2.2 e
    have t2 := congrArg List.reverse this
    simpa using t2
  · intro e; rw [e]
/-- the day from which a text holds -/
def zfr (X : zTX) (k : Nat) : Int := (X.getD k (0, [])).1
def zqd (X : zTX) (n : Nat) : List Nat := (List.range X.length).filter (fun k => decide (zfr X k = (n : Int)))
def zqs (X : zTX) (n : Nat) : List Nat := (List.range n).flatMap (zqd X)
def znm2 (X : zTX) (r : Int) : List Int := (zru X r).2.1
/-- a rule comes into force -/
def zco (X : zTX) (fl : List Int) (r : Int) : List Int :=
  if (zru X r).1 = 5 then fl.eraseIdx (fl.findIdx (fun q => znm2 X q == znm2 X r)) else if fl.findIdx (fun q => znm2 X q == znm2 X r) < fl.length then fl.set (fl.findIdx (fun q => znm2 X q == znm2 X r)) r else fl ++ [r]
def zrs (X : zTX) (k : Nat) : List Int := (List.range (zrl X k).length).map (fun j : Nat => (24 * k + j : Int))
def zla (X : zTX) (fl : List Int) (k : Nat) : List Int := (zrs X k).foldl (zco X) fl
def zfo (X : zTX) (n : Nat) : List Int := (zqs X n).foldl (zla X) []
theorem zqs_mem {X : zTX} {n k : Nat} (h : k ∈ zqs X n) : k < X.length ∧ 0 ≤ zfr X k ∧ zfr X k < n := by
  unfold zqs zqd at h
  simp only [List.mem_flatMap, List.mem_range, List.mem_filter, decide_eq_true_eq] at h
  obtain ⟨d, hd, hk, e⟩ := h
  exact ⟨hk, by omega, by omega⟩
theorem zqs_app (X : zTX) (n m : Nat) : zqs X (n + m) = zqs X n ++ (List.range m).flatMap (fun i => zqd X (n + i)) := by
  unfold zqs
  rw [List.range_add, List.flatMap_append, List.flatMap_map]
theorem zqs_s (X : zTX) (n : Nat) : zqs X (n + 1) = zqs X n ++ zqd X n := by
  unfold zqs; rw [List.range_succ, List.flatMap_append]; simp
theorem zqs_len (X : zTX) (n : Nat) : (zqs X n).length ≤ X.length := by
  have key : ∀ (l : List Nat) (n : Nat), (l.filter (fun k => decide (0 ≤ zfr X k ∧ zfr X k < (n : Int)))).length + (l.filter (fun k => decide (zfr X k = (n : Int)))).length = (l.filter (fun k => decide (0 ≤ zfr X k ∧ zfr X k < ((n + 1 : Nat) : Int)))).length := by
    intro l n
    induction l with
    | nil => rfl
    | cons k l ih =>
      simp only [List.filter_cons]
      by_cases h1 : zfr X k = (n : Int)
      · rw [if_neg (by simp; omega), if_pos (by simp; omega), if_pos (by simp; omega)]; simp only [List.length_cons]; omega
      · by_cases h2 : 0 ≤ zfr X k ∧ zfr X k < (n : Int)
        · rw [if_pos (by simp; omega), if_neg (by simp; omega), if_pos (by simp; omega)]; simp only [List.length_cons]; omega
        · rw [if_neg (by simp; omega), if_neg (by simp; omega), if_neg (by simp; omega)]; exact ih
  have all : ∀ n : Nat, (zqs X n).length = ((List.range X.length).filter (fun k => decide (0 ≤ zfr X k ∧ zfr X k < (n : Int)))).length := by
    intro n
    induction n with
    | zero =>
      have : (List.range X.length).filter (fun k => decide (0 ≤ zfr X k ∧ zfr X k < ((0 : Nat) : Int))) = [] := by
        rw [List.filter_eq_nil_iff]; intro a _ z; have := of_decide_eq_true z; omega
      rw [this]; rfl
    | succ n ih => rw [zqs_s, List.length_append, ih, ← key]; rfl
  rw [all]
  have := List.length_filter_le (fun k => decide (0 ≤ zfr X k ∧ zfr X k < (n : Int))) (List.range X.length)
  rw [List.length_range] at this
  exact this
theorem zco_len (X : zTX) (fl : List Int) (r : Int) : (zco X fl r).length ≤ fl.length + 1 := by
  unfold zco
  split
  · have := List.length_eraseIdx_le fl (fl.findIdx (fun q => znm2 X q == znm2 X r)); omega
  · split
    · simp
    · simp
theorem zfold_len (X : zTX) : ∀ (rs fl : List Int), (rs.foldl (zco X) fl).length ≤ fl.length + rs.length
  | [], fl => by simp
  | r :: rs, fl => by
    rw [List.foldl_cons]
    have := zfold_len X rs (zco X fl r)
    have := zco_len X fl r
    simp only [List.length_cons]; omega
/-- all rules of a list are rules of the texts, and their names are apart -/
def zfk (X : zTX) (fl : List Int) : Prop := (∀ r ∈ fl, zvr X r) ∧ (fl.map (znm2 X)).Nodup
theorem zco_ok {X : zTX} {fl : List Int} {r : Int} (h : zfk X fl) (hr : zvr X r) : zfk X (zco X fl r) := by
  obtain ⟨h1, h2⟩ := h
  unfold zco
  split
  · refine ⟨fun q hq => h1 q (List.mem_of_mem_eraseIdx hq), ?_⟩
    exact List.Nodup.sublist ((List.eraseIdx_sublist fl _).map _) h2
  · split
    · rename_i hlt
      have hp := List.findIdx_getElem (p := fun q => znm2 X q == znm2 X r) (w := hlt)
      refine ⟨fun q hq => ?_, ?_⟩
      · rcases List.mem_or_eq_of_mem_set hq with z | z
        · exact h1 q z
        · rw [z]; exact hr
      · have e : (fl.set (fl.findIdx (fun q => znm2 X q == znm2 X r)) r).map (znm2 X) = fl.map (znm2 X) := by
          generalize fl.findIdx (fun q => znm2 X q == znm2 X r) = k at *
          rw [List.map_set]
          have : znm2 X r = (fl.map (znm2 X))[k]'(by rw [List.length_map]; exact hlt) := by
            rw [List.getElem_map]; exact (by simpa using hp : znm2 X fl[k] = znm2 X r).symm
          rw [this, List.set_getElem_self]
        rw [e]; exact h2
    · rename_i hge
      refine ⟨fun q hq => ?_, ?_⟩
      · rcases List.mem_append.1 hq with z | z
        · exact h1 q z
        · rw [List.mem_singleton.1 z]; exact hr
      · rw [List.map_append, List.nodup_append]
        refine ⟨h2, by simp, ?_⟩
        intro a ha b hb e
        simp at hb
        obtain ⟨q, hq, e2⟩ := List.mem_map.1 ha
        apply hge
        apply List.findIdx_lt_length_of_exists
        exact ⟨q, hq, by simp [e2, e, hb]⟩
theorem zrs_v {X : zTX} {k : Nat} (hk : k < X.length) (hl : (zrl X k).length ≤ 24) : ∀ r ∈ zrs X k, zvr X r := by
  intro r hr
  unfold zrs at hr
  obtain ⟨j, hj, e⟩ := List.mem_map.1 hr
  have hj := List.mem_range.1 hj
  have e1 : (r / 24).toNat = k := by omega
  have e2 : (r % 24).toNat = j := by omega
  exact ⟨by omega, by rw [e1]; exact hk, by rw [e1, e2]; exact hj⟩
theorem zfk_fold {X : zTX} : ∀ (rs fl : List Int), zfk X fl → (∀ r ∈ rs, zvr X r) → zfk X (rs.foldl (zco X) fl)
  | [], fl, h, _ => h
  | r :: rs, fl, h, hv => by
    rw [List.foldl_cons]
    exact zfk_fold rs _ (zco_ok h (hv r (List.mem_cons_self ..))) (fun x hx => hv x (List.mem_cons_of_mem _ hx))
theorem zfk_la {X : zTX} (hX : ∀ k, k < X.length → (zrl X k).length ≤ 24) : ∀ (ks : List Nat) (fl : List Int), zfk X fl → (∀ k ∈ ks, k < X.length) → zfk X (ks.foldl (zla X) fl) ∧ (ks.foldl (zla X) fl).length ≤ fl.length + 24 * ks.length
  | [], fl, h, _ => ⟨h, by simp⟩
  | k :: ks, fl, h, hk => by
    have hk0 := hk k (List.mem_cons_self ..)
    have a := zfk_fold (zrs X k) fl h (zrs_v hk0 (hX k hk0))
    have b := zfold_len X (zrs X k) fl
    have lr : (zrs X k).length ≤ 24 := by unfold zrs; simp; exact hX k hk0
    obtain ⟨c, e⟩ := zfk_la hX ks (zla X fl k) a (fun x hx => hk x (List.mem_cons_of_mem _ hx))
    rw [List.foldl_cons]
    refine ⟨c, ?_⟩
    have : (zla X fl k).length ≤ fl.length + 24 := by unfold zla; omega
    simp only [List.length_cons]; omega
theorem zfo_ok {X : zTX} (hX : ∀ k, k < X.length → (zrl X k).length ≤ 24) (n : Nat) : zfk X (zfo X n) ∧ (zfo X n).length ≤ 24 * (zqs X n).length := by
  have := zfk_la hX (zqs X n) [] ⟨fun r h => (by cases h), List.nodup_nil⟩ (fun k h => (zqs_mem h).1)
  exact ⟨this.1, by simpa [zfo] using this.2⟩

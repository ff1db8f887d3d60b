/-! THE CLASS: months are tried. -/
noncomputable def zmk (A : Nat → Nat) (aw : List Nat) (k p f : Nat) : Nat → Bool := fun s => @decide (pcn 12 s ≤ p ∧ zenu A k f (zgn aw s aw.length)) (Classical.propDecidable _)
theorem zmk_t {A : Nat → Nat} {aw : List Nat} {k p f s : Nat} : zmk A aw k p f s = true ↔ pcn 12 s ≤ p ∧ zenu A k f (zgn aw s aw.length) := by unfold zmk; exact @decide_eq_true_iff _ (Classical.propDecidable _)
theorem zmk_a {A : Nat → Nat} {aw : List Nat} {k p f : Nat} (hw : ∀ x ∈ aw, x < 9) : zant (zmk A aw k p f) := fun a b h hb => by
  rw [zmk_t] at hb ⊢
  refine ⟨Nat.le_trans (pcn_mono 12 (fun j _ q => h j q)) hb.1, zenu_m (zgn_lt hw _ (Nat.le_refl _)) (zgn_lt hw _ (Nat.le_refl _)) (fun j hj => ?_) hb.2⟩
  rw [zgn_t] at hj ⊢
  obtain ⟨i, h1, h2, h3⟩ := hj
  exact ⟨i, h1, h i h2, h3⟩
theorem mst_lt : ∀ (n : Nat) (pre : List Nat), pre.length = n → ∀ m, (mst pre).1 m < 2 ^ n := by
  intro n
  induction n with
  | zero => intro pre h m; rw [List.eq_nil_of_length_eq_zero h]; show (0 : Nat) < 2 ^ 0; decide
  | succ n ih =>
    intro pre h m
    obtain ⟨l, x, rfl⟩ : ∃ l x, pre = l ++ [x] := by
      rcases List.eq_nil_or_concat pre with e | ⟨l, x, e⟩
      · rw [e] at h; simp at h
      · exact ⟨l, x, by simpa using e⟩
    have hl : l.length = n := by simpa using h
    have p : 2 ^ n < 2 ^ (n + 1) := Nat.pow_lt_pow_right (by decide) (by omega)
    rw [mst_s]
    show (if m = x then (mst l).1 x ||| 2 ^ (mst l).2 else (mst l).1 m) < _
    rw [mst_i n l hl]
    split
    · exact Nat.or_lt_two_pow (Nat.lt_trans (ih l hl x) p) p
    · exact Nat.lt_trans (ih l hl m) p
/-- the state of the tries -/
def xmt (m : zM) (A : Nat → Nat) (aw : List Nat) (k w p f : Nat) (pre : List Nat) : Prop := xcd m A aw k w p f ∧ xvd m A aw k f ∧ (∀ r : Nat, r < 5 → (m 50 ((r : Int))) = ((mst pre).1 r : Nat)) ∧ ∀ i : Nat, i < pre.length → (m 51 ((i : Int))) = (pre.getD i 0 : Nat)
def xmq (m m1 : zM) : Prop := ∀ i j, i ≠ 49 → i ≠ 50 → i ≠ 51 → m1 i j = m i j
theorem xmq_F {m m1 : zM} (F : zFix m) (p : xmq m m1) : zFix m1 := fun i j q => by
  have := zrv_ob q
  rw [p i j (by omega) (by omega) (by omega)]
  exact F i j q
theorem xcd_fr {m m1 : zM} {A : Nat → Nat} {aw : List Nat} {k w p f : Nat} (C : xcd m A aw k w p f) (q : xmq m m1) : xcd m1 A aw k w p f := by
  obtain ⟨⟨a1, a2, a3, a4, a5⟩, c1, c2⟩ := C
  exact ⟨⟨by rw [q _ _ (by decide) (by decide) (by decide)]; exact a1, by rw [q _ _ (by decide) (by decide) (by decide)]; exact a2, by rw [q _ _ (by decide) (by decide) (by decide)]; exact a3, by rw [q _ _ (by decide) (by decide) (by decide)]; exact a4, by rw [q _ _ (by decide) (by decide) (by decide)]; exact a5⟩, fun i hi => by rw [q _ _ (by decide) (by decide) (by decide)]; exact c1 i hi, fun i hi => by rw [q _ _ (by decide) (by decide) (by decide)]; exact c2 i hi⟩
theorem c_Cd_tryMonths {d : Nat} {h : zH} {A : Nat → Nat} {aw : List Nat} {k w p f : Nat} (L : zLay h) (hA : ∀ i, i < k → A i < 512) (hk : k ≤ 8) (hw : ∀ x ∈ aw, x < 9) (h5 : aw.length ≤ 5) (hf : f ≤ 1) (hw5 : w ≤ 5) : ∀ (r : Nat) (pre : List Nat) (u : Nat) (m : zM) (P : Int → zM → zH → Prop), pre.length + r = aw.length → u ≤ 5 → zFix m → xmt m A aw k w p f pre →
    (∀ l, mrd (zmk A aw k p f) w r pre u = some l → ∀ m' : zM, xmq m m' → (∀ i : Nat, i < aw.length → (m' 51 ((i : Int))) = (l.getD i 0 : Nat)) → P 1 m' h) → (mrd (zmk A aw k p f) w r pre u = none → ∀ m', xmq m m' → xmt m' A aw k w p f pre → P 0 m' h) → zcal WP (d + r + 4) n_Cd_tryMonths [.inr (.inr 43), .inl (pre.length : Int), .inl (u : Int)] m h (zk1 P) := by
  intro r
  induction r with
  | zero =>
    intro pre u m P hp hu F S K1 K0
    obtain ⟨C, V, I, T⟩ := S
    have a1 := C.1.1
    apply e_Cd_tryMonths
    apply s_Cd_tryMonths_0
    rw [a1]
    exact ⟨k43 L, fun z => by omega, fun _ => ⟨Or.inr rfl, _, rfl, K1 pre rfl m (fun _ _ _ _ _ => rfl) (fun i hi => T i (by omega))⟩⟩
  | succ r ih =>
    intro pre u m P hp hu F S K1 K0
    have K1 : ∀ l, (List.range w).findSome? (fun m => if m ≤ u ∧ zmk A aw k p f ((mst pre).1 m ||| 2 ^ pre.length) = true then mrd (zmk A aw k p f) w r (pre ++ [m]) (if m = u then u + 1 else u) else none) = some l → ∀ m' : zM, xmq m m' → (∀ i : Nat, i < aw.length → (m' 51 ((i : Int))) = (l.getD i 0 : Nat)) → P 1 m' h := K1
    have K0 : (List.range w).findSome? (fun m => if m ≤ u ∧ zmk A aw k p f ((mst pre).1 m ||| 2 ^ pre.length) = true then mrd (zmk A aw k p f) w r (pre ++ [m]) (if m = u then u + 1 else u) else none) = none → ∀ m', xmq m m' → xmt m' A aw k w p f pre → P 0 m' h := K0
    have a1 := S.1.1.1
    apply e_Cd_tryMonths
    apply s_Cd_tryMonths_0
    rw [a1]
    refine ⟨k43 L, fun _ => ?_, fun z => by omega⟩
    have lp : ∀ (t j : Nat) (m2 : zM), j + t = w → xmq m m2 → xmt m2 A aw k w p f pre → (List.range j).findSome? (fun m => if m ≤ u ∧ zmk A aw k p f ((mst pre).1 m ||| 2 ^ pre.length) = true then mrd (zmk A aw k p f) w r (pre ++ [m]) (if m = u then u + 1 else u) else none) = none → q_Cd_tryMonths_12 (d + r + 4) 43 (pre.length : Int) (u : Int) (j : Int) m2 h (zk1 P) := by
      intro t
      induction t with
      | zero =>
        intro j m2 hj q S2 no
        have b3 := S2.1.1.2.2.1
        have : j = w := by omega
        subst this
        apply s_Cd_tryMonths_12
        rw [b3]
        exact ⟨k43 L, fun _ => ⟨Or.inl rfl, _, rfl, K0 no m2 q S2⟩, fun z => by omega⟩
      | succ t ih2 =>
        intro j m2 hj q S2 no
        obtain ⟨C, V, I, T⟩ := id S2
        obtain ⟨⟨b1, b2, b3, b4, b5⟩, c1, c2⟩ := id C
        have F2 := xmq_F F q
        have lt := mst_lt _ pre rfl j
        have p5 : 2 ^ (pre.length + 1) ≤ 2 ^ 5 := Nat.pow_le_pow_right (by decide) (by omega)
        rw [Nat.pow_succ] at p5
        have hs : (mst pre).1 j ||| 2 ^ pre.length < 32 := Nat.or_lt_two_pow (n := 5) (by omega) (by omega)
        have nx : ∀ m3, xmq m m3 → xmt m3 A aw k w p f pre → (if j ≤ u ∧ zmk A aw k p f ((mst pre).1 j ||| 2 ^ pre.length) = true then mrd (zmk A aw k p f) w r (pre ++ [j]) (if j = u then u + 1 else u) else none) = none → q_Cd_tryMonths_12 (d + r + 4) 43 (pre.length : Int) (u : Int) ((j + 1 : Nat) : Int) m3 h (zk1 P) := fun m3 q3 S3 e => by
          refine ih2 (j + 1) m3 (by omega) q3 S3 ?_
          rw [List.range_succ, List.findSome?_append, no]
          simp only [List.findSome?_cons, List.findSome?_nil, e]
          rfl
        apply s_Cd_tryMonths_12
        rw [b3, f43_8 F2, I j (by omega), zshl_n _ (by omega), zor_n _ _ (by omega) (by omega), w32_id (x := (j : Int) + 1) (by omega) (by omega), show (j : Int) + 1 = ((j + 1 : Nat) : Int) by omega]
        refine ⟨k43 L, fun z => by omega, fun _ => ⟨fun z => ?_, fun z => ⟨k43 L, k50 L, by omega, by rw [l50 L]; omega, ?_⟩⟩⟩
        · have tl : ∀ n, j ≤ n → (List.range n).findSome? (fun m => if m ≤ u ∧ zmk A aw k p f ((mst pre).1 m ||| 2 ^ pre.length) = true then mrd (zmk A aw k p f) w r (pre ++ [m]) (if m = u then u + 1 else u) else none) = none := by
            intro n hn
            rw [List.findSome?_eq_none_iff] at no ⊢
            intro x hx
            by_cases y : x < j
            · exact no x (List.mem_range.2 y)
            · rw [if_neg (by omega)]
          exact ⟨Or.inl rfl, _, rfl, K0 (tl w (by omega)) m2 q S2⟩
        · refine c_Jn_bitCount ?_
          rw [zpc_p _ (by omega), b4]
          refine ⟨k43 L, fun y => nx m2 q S2 (if_neg (fun v => by have := (zmk_t.1 v.2).1; omega)), fun y => ⟨k43 L, ?_⟩⟩
          have more : ∀ m3 : zM, (∀ i j, i ≠ 49 → m3 i j = m2 i j) → xvd m3 A aw k f → xmt m3 A aw k w p f pre := fun m3 w3 V3 => ⟨xcd_fr C (fun i j y1 y2 y3 => w3 i j y1), V3, fun r hr => by rw [w3 _ _ (by decide)]; exact I r hr, fun i hi => by rw [w3 _ _ (by decide)]; exact T i hi⟩
          refine c_Cd_isEnough (d := d + r + 1) F2 L C V hA hk hw h5 hf hs (fun en m3 w3 V3 => ?_) (fun en m3 w3 V3 => ?_)
          · have S3 := more m3 w3 V3
            have q3 : xmq m m3 := fun i j y1 y2 y3 => (w3 i j y1).trans (q i j y1 y2 y3)
            have F3 := xmq_F F q3
            have okj : zmk A aw k p f ((mst pre).1 j ||| 2 ^ pre.length) = true := zmk_t.2 ⟨by omega, en⟩
            refine ⟨fun v => absurd v (by decide), fun _ => ⟨k43 L, ?_⟩⟩
            rw [f43_9 F3]
            refine ⟨k51 L, by decide, by omega, by rw [l51 L]; omega, fun m4 e4 => ⟨k43 L, ?_⟩⟩
            have F4 : zFix m4 := by rw [e4]; exact zFix_wr F3 (zrv_0 (by decide))
            rw [f43_8 F4]
            refine ⟨k50 L, by decide, by omega, by rw [l50 L]; omega, fun m5 e5 => ?_⟩
            have o5 : ∀ x y, ¬ (x = 51 ∧ y = (pre.length : Int)) → ¬ (x = 50 ∧ y = (j : Int)) → m5 x y = m3 x y := fun x y y1 y2 => by rw [e5, zwr_ap, if_neg y2, e4, zwr_ap, if_neg y1]
            have es := mst_s pre j
            have li : (mst pre).2 = pre.length := mst_i _ pre rfl
            have q5 : xmq m m5 := fun i j y1 y2 y3 => by rw [o5 i j (by omega) (by omega)]; exact q3 i j y1 y2 y3
            have F5 := xmq_F F q5
            have S5 : xmt m5 A aw k w p f (pre ++ [j]) := by
              refine ⟨xcd_fr S3.1 (fun x y y1 y2 y3 => o5 x y (by omega) (by omega)), fun s hs => by rw [o5 _ _ (by omega) (by omega)]; exact V3 s hs, fun rr hr => ?_, fun i hi => ?_⟩
              · rw [es]
                show _ = ((if rr = j then (mst pre).1 j ||| 2 ^ (mst pre).2 else (mst pre).1 rr : Nat) : Int)
                rw [li]
                by_cases v : rr = j
                · subst v; rw [if_pos rfl, e5, zwr_eq]
                · rw [if_neg v, o5 _ _ (by omega) (by omega)]; exact S3.2.2.1 rr hr
              · rw [List.length_append, List.length_singleton] at hi
                rw [gdn_app]
                by_cases v : i = pre.length
                · subst v; rw [if_neg (by omega), if_pos rfl, e5, zwr_ap, if_neg (by omega), e4, zwr_eq]
                · rw [if_pos (by omega), o5 _ _ (by omega) (by omega)]; exact S3.2.2.2 i (by omega)
            have go : ∀ (u' : Nat) (s0 : Int), s0 = (u' : Int) → u' ≤ 5 → u' = (if j = u then u + 1 else u) → q_Cd_tryMonths_93 (d + r + 4) 43 (pre.length : Int) (u : Int) (j : Int) (((mst pre).1 j : Nat) : Int) s0 (w32 ((pre.length : Int) + 1)) 43 m5 h (zk1 P) := fun u' s0 h0 h7 hu' => by
              have e1 : w32 ((pre.length : Int) + 1) = ((pre ++ [j]).length : Int) := by
                rw [List.length_append, List.length_singleton, w32_id (by omega) (by omega)]; omega
              apply s_Cd_tryMonths_93
              rw [e1, h0]
              refine ⟨k43 L, ?_⟩
              refine ih (pre ++ [j]) u' m5 _ (by rw [List.length_append, List.length_singleton]; omega) h7 F5 S5 (fun l hl m6 q6 t6 => ?_) (fun hl m6 q6 S6 => ?_)
              · refine ⟨fun v => absurd v (by decide), fun _ => ⟨Or.inr rfl, _, rfl, ?_⟩⟩
                refine K1 l ?_ m6 (fun i j y1 y2 y3 => (q6 i j y1 y2 y3).trans (q5 i j y1 y2 y3)) t6
                have ej : (List.range (j + 1)).findSome? (fun m => if m ≤ u ∧ zmk A aw k p f ((mst pre).1 m ||| 2 ^ pre.length) = true then mrd (zmk A aw k p f) w r (pre ++ [m]) (if m = u then u + 1 else u) else none) = some l := by
                  rw [List.range_succ, List.findSome?_append, no]
                  have : (if j ≤ u ∧ zmk A aw k p f ((mst pre).1 j ||| 2 ^ pre.length) = true then mrd (zmk A aw k p f) w r (pre ++ [j]) (if j = u then u + 1 else u) else none) = some l := by
                    rw [if_pos ⟨by omega, okj⟩, ← hu']; exact hl
                  simp only [List.findSome?_cons, List.findSome?_nil, this]
                  rfl
                have ext : ∀ n, j + 1 ≤ n → (List.range n).findSome? (fun m => if m ≤ u ∧ zmk A aw k p f ((mst pre).1 m ||| 2 ^ pre.length) = true then mrd (zmk A aw k p f) w r (pre ++ [m]) (if m = u then u + 1 else u) else none) = some l := by
                  intro n
                  induction n with
                  | zero => intro hn; omega
                  | succ n ihn =>
                    intro hn
                    by_cases v : j = n
                    · subst v; exact ej
                    · rw [List.range_succ, List.findSome?_append, ihn (by omega)]; rfl
                exact ext w (by omega)
              · have F6 := xmq_F F5 q6
                obtain ⟨C6, V6, I6, T6⟩ := S6
                refine ⟨fun _ => ⟨k43 L, ?_⟩, fun v => absurd rfl v⟩
                rw [f43_8 F6]
                refine ⟨k50 L, by decide, by omega, by rw [l50 L]; omega, fun m7 e7 => ?_⟩
                rw [w32_id (by omega) (by omega), show (j : Int) + 1 = ((j + 1 : Nat) : Int) by omega]
                have o7 : ∀ x y, ¬ (x = 50 ∧ y = (j : Int)) → m7 x y = m6 x y := fun x y y1 => by rw [e7, zwr_ap, if_neg y1]
                refine nx m7 (fun x y y1 y2 y3 => by rw [o7 x y (by omega), q6 x y y1 y2 y3]; exact q5 x y y1 y2 y3) ⟨xcd_fr C6 (fun x y y1 y2 y3 => o7 x y (by omega)), fun s hs => by rw [o7 _ _ (by omega)]; exact V6 s hs, fun rr hr => ?_, fun i hi => ?_⟩ (by rw [if_pos ⟨by omega, okj⟩, ← hu']; exact hl)
                · by_cases v : rr = j
                  · subst v; rw [e7, zwr_eq]
                  · rw [o7 _ _ (by omega), I6 rr hr, es]
                    show ((if rr = j then _ else (mst pre).1 rr : Nat) : Int) = _
                    rw [if_neg v]
                · have := T6 i (by rw [List.length_append]; omega)
                  rw [gdn_app, if_pos hi] at this
                  rw [o7 _ _ (by omega)]; exact this
            exact ⟨fun v => go u _ rfl hu (by rw [if_neg (by omega)]), fun v => go (u + 1) _ (by rw [w32_id (by omega) (by omega)]; omega) (by omega) (by rw [if_pos (by omega)])⟩
          · exact ⟨fun _ => nx m3 (fun i j y1 y2 y3 => (w3 i j y1).trans (q i j y1 y2 y3)) (more m3 w3 V3) (if_neg (fun v => en (zmk_t.1 v.2).2)), fun v => absurd rfl v⟩
    exact lp w 0 m (by omega) (fun _ _ _ _ _ => rfl) S rfl
/-- the month of an engine -/
def zmo2 (aw l : List Nat) (e : Int) : Nat → Nat → Int
  | 0, _ => -1
  | t + 1, i => if ((aw.getD i 0 : Nat) : Int) = e then (l.getD i 0 : Nat) else zmo2 aw l e t (i + 1)
theorem zmo2_of {aw l : List Nat} {e : Int} {k : Nat} (he : ((aw.getD k 0 : Nat) : Int) = e) : ∀ (t j : Nat), j ≤ k → k < j + t → (∀ i, j ≤ i → i < k → ((aw.getD i 0 : Nat) : Int) ≠ e) → zmo2 aw l e t j = (l.getD k 0 : Nat)
  | 0, j, a, b, c => by omega
  | t + 1, j, a, b, c => by
    show (if ((aw.getD j 0 : Nat) : Int) = e then _ else _) = _
    by_cases z : j = k
    · subst z; rw [if_pos he]
    · rw [if_neg (c j (by omega) (by omega))]
      exact zmo2_of he t (j + 1) (by omega) (by omega) (fun i x y => c i (by omega) y)
theorem zmo2_s {aw l : List Nat} {e : Int} {k : Nat} (z : ¬ ((aw.getD k 0 : Nat) : Int) = e) : ∀ (t j : Nat), j + t = k → zmo2 aw l e t j = zmo2 aw l e (t + 1) j
  | 0, j, hj => by
    have : j = k := by omega
    subst this
    show -1 = (if ((aw.getD j 0 : Nat) : Int) = e then _ else _)
    rw [if_neg z]; rfl
  | t + 1, j, hj => by
    show (if ((aw.getD j 0 : Nat) : Int) = e then _ else _) = (if ((aw.getD j 0 : Nat) : Int) = e then _ else _)
    rw [zmo2_s z t (j + 1) (by omega)]
theorem c_Cd_solve {d : Nat} {m0 : zM} {h : zH} {P : Int → zM → zH → Prop} {A : Nat → Nat} {aw : List Nat} {k w p f : Nat} (F0 : zFix m0) (L : zLay h) (hA : ∀ i, i < k → A i < 512) (hk : k ≤ 8) (hw : ∀ x ∈ aw, x < 9) (hd : ∀ i j, i < aw.length → j < aw.length → aw.getD i 0 = aw.getD j 0 → i = j) (h5 : 1 ≤ aw.length ∧ aw.length ≤ 5) (hf : f ≤ 1) (hw5 : w ≤ 5)
    (c1 : (m0 43 3) = aw.length) (c2 : ∀ i : Nat, i < aw.length → (m0 46 ((i : Int))) = (aw.getD i 0 : Nat)) (c3 : (m0 43 5) = k) (c4 : ∀ I : Nat, I < 2 ^ k → (m0 48 ((I : Int))) = (zun A k I : Nat))
    (K0 : men (zmk A aw k p f) w aw.length [] = none → ∀ m', (∀ i j, i ≠ 49 → i ≠ 50 → i ≠ 51 → ¬ (i = 43 ∧ (j = 10 ∨ j = 11 ∨ j = 12)) → m' i j = m0 i j) → P 0 m' h)
    (K1 : ∀ l, men (zmk A aw k p f) w aw.length [] = some l → ∀ m' : zM, (∀ i j, i ≠ 45 → i ≠ 49 → i ≠ 50 → i ≠ 51 → ¬ (i = 43 ∧ (j = 10 ∨ j = 11 ∨ j = 12)) → m' i j = m0 i j) → (∀ e, 0 ≤ e → e < 9 → (m' 45 e) = zmo2 aw l e aw.length 0) → P 1 m' h) : zcal WP (d + 10) n_Cd_solve [.inr (.inr 43), .inl (w : Int), .inl (p : Int), .inl (f : Int)] m0 h (zk1 P) := by
  have eq := mrd_eq (zmk_a (A := A) (k := k) (p := p) (f := f) hw) (w := w) h5.1 aw.length [] 0 (by simp) (by simp) (fun m _ z => absurd rfl z) (fun m _ => rfl)
  apply e_Cd_solve
  apply s_Cd_solve_0
  refine ⟨k43 L, by decide, fun m1 e1 => ⟨k43 L, by decide, fun m2 e2 => ⟨k43 L, by decide, fun m3 e3 => ⟨k43 L, ?_⟩⟩⟩⟩
  have o3 : ∀ x j, ¬ (x = 43 ∧ (j = 10 ∨ j = 11 ∨ j = 12)) → m3 x j = m0 x j := fun x j y => by rw [e3, zwr_ap, if_neg (by omega), e2, zwr_ap, if_neg (by omega), e1, zwr_ap, if_neg (by omega)]
  have F3 : zFix m3 := by rw [e3, e2, e1]; exact zFix_wr (zFix_wr (zFix_wr F0 rfl) rfl) rfl
  rw [f43_7 F3]
  refine c_Jn_fill (k49 L) (by decide) (l49 L) (by decide) fun m4 w4 v4 => ⟨k43 L, ?_⟩
  have F4 : zFix m4 := fun x j y => by rw [w4 x j (by have := zrv_ob y; omega)]; exact F3 x j y
  rw [f43_8 F4]
  refine c_Jn_fill (k50 L) (by decide) (l50 L) (by decide) fun m5 w5 v5 => ⟨k43 L, ?_⟩
  have F5 : zFix m5 := fun x j y => by rw [w5 x j (by have := zrv_ob y; omega)]; exact F4 x j y
  have o5 : ∀ x j, x ≠ 49 → x ≠ 50 → m5 x j = m3 x j := fun x j y1 y2 => by rw [w5 x j y2]; exact w4 x j y1
  have S5 : xmt m5 A aw k w p f [] := by
    refine ⟨⟨⟨by rw [o5 _ _ (by decide) (by decide), o3 _ _ (by omega)]; exact c1, by rw [o5 _ _ (by decide) (by decide), o3 _ _ (by omega)]; exact c3, ?_, ?_, ?_⟩, fun i hi => by rw [o5 _ _ (by decide) (by decide), o3 _ _ (by omega)]; exact c2 i hi, fun I hI => by rw [o5 _ _ (by decide) (by decide), o3 _ _ (by omega)]; exact c4 I hI⟩, fun s hs => Or.inl (by rw [w5 _ _ (by decide)]; exact v4 s (by omega) (by omega)), fun r hr => v5 r (by omega) (by omega), fun i hi => by simp at hi⟩
    · rw [o5 _ _ (by decide) (by decide), e3, zwr_ap, if_neg (by omega), e2, zwr_ap, if_neg (by omega), e1, zwr_eq]
    · rw [o5 _ _ (by decide) (by decide), e3, zwr_ap, if_neg (by omega), e2, zwr_eq]
    · rw [o5 _ _ (by decide) (by decide), e3, zwr_eq]
  have all5 : ∀ x j, x ≠ 49 → x ≠ 50 → x ≠ 51 → ¬ (x = 43 ∧ (j = 10 ∨ j = 11 ∨ j = 12)) → m5 x j = m0 x j := fun x j y1 y2 y3 y4 => by rw [o5 x j y1 y2]; exact o3 x j y4
  have tr := c_Cd_tryMonths (d := d + 5 - aw.length) L hA hk hw h5.2 hf hw5 aw.length [] 0 m5 (fun r6 m6 h6 => (r6 ≠ 0 → kd h6 43 = 4 ∧ zcal WP (d + 9) n_Jn_fill [.inr (.inr (m6 43 1)), .inl ((-1))] m6 h6 (zk0 fun m7 h7 => q_Cd_solve_53 (d + 9) 43 0 m7 h7 (zk1 P))) ∧ (¬ (r6 ≠ 0) → ((0 : Int) = 0 ∨ (0 : Int) = 1) ∧ zk1 P (some (.inl (0 : Int))) m6 h6)) (by simp) (by decide) F5 S5 (fun l hl m6 q6 t6 => ?_) (fun hl m6 q6 S6 => ?_)
  · rw [show d + 5 - aw.length + aw.length + 4 = d + 9 by omega] at tr
    exact tr
  · have F6 := xmq_F F5 q6
    have gl := men_g (ok := zmk A aw k p f) (w := w) (n := aw.length) aw.length [] l (by simp) (by simp) (by rw [← eq]; exact hl)
    refine ⟨fun _ => ⟨k43 L, ?_⟩, fun z => absurd (by decide) z⟩
    rw [f43_1 F6]
    refine c_Jn_fill (k45 L) (by decide) (l45 L) (by decide) fun m7 w7 v7 => ?_
    have lp : ∀ (t i : Nat) (m8 : zM), i + t = aw.length → (∀ x j, x ≠ 45 → m8 x j = m6 x j) → (∀ e, 0 ≤ e → e < 9 → m8 45 e = zmo2 aw l e i 0) → q_Cd_solve_53 (d + 9) 43 (i : Int) m8 h (zk1 P) := by
      intro t
      induction t with
      | zero =>
        intro i m8 hi w8 al
        have a1 : m8 43 3 = aw.length := by rw [w8 _ _ (by decide), q6 _ _ (by decide) (by decide) (by decide)]; exact S5.1.1.1
        apply s_Cd_solve_53
        rw [a1]
        refine ⟨k43 L, fun _ => ⟨Or.inr rfl, _, rfl, K1 l (by rw [← eq]; exact hl) m8 (fun x j y1 y2 y3 y4 y5 => by rw [w8 x j y1, q6 x j y2 y3 y4]; exact all5 x j y2 y3 y4 y5) (fun e x y => ?_)⟩, fun z => by omega⟩
        rw [al e x y, show i = aw.length by omega]
      | succ t ih =>
        intro i m8 hi w8 al
        have F8 : zFix m8 := fun x j y => by rw [w8 x j (by have := zrv_ob y; omega)]; exact F6 x j y
        have a1 : m8 43 3 = aw.length := by rw [w8 _ _ (by decide), q6 _ _ (by decide) (by decide) (by decide)]; exact S5.1.1.1
        have a2 : m8 46 (i : Int) = (aw.getD i 0 : Nat) := by rw [w8 _ _ (by decide), q6 _ _ (by decide) (by decide) (by decide)]; exact S5.1.2.1 i (by omega)
        have a3 : m8 51 (i : Int) = (l.getD i 0 : Nat) := by rw [w8 _ _ (by decide)]; exact t6 i (by omega)
        have lt := hw _ (gdn_mem (fl := aw) (i := i) (by omega))
        apply s_Cd_solve_53
        rw [a1, f43_2 F8, f43_9 F8, f43_1 F8, a2, a3]
        refine ⟨k43 L, fun z => by omega, fun _ => ⟨k43 L, k43 L, k46 L, by omega, by rw [l46 L]; omega, k43 L, k51 L, by omega, by rw [l51 L]; omega, k45 L, by decide, by omega, by rw [l45 L]; omega, fun m9 e9 => ?_⟩⟩
        rw [w32_id (by omega) (by omega), show (i : Int) + 1 = ((i + 1 : Nat) : Int) by omega]
        refine ih (i + 1) m9 (by omega) (fun x j y => by rw [e9, zwr_ap, if_neg (by omega)]; exact w8 x j y) (fun e x y => ?_)
        by_cases z : ((aw.getD i 0 : Nat) : Int) = e
        · rw [zmo2_of z (i + 1) 0 (by omega) (by omega) (fun j x y w => by
            have := hd j i (by omega) (by omega) (by omega)
            omega), e9, z, zwr_eq]
        · rw [e9, zwr_ap, if_neg (by omega), al e x y, zmo2_s z i 0 (by omega)]
    exact lp aw.length 0 m7 (by omega) w7 (fun e x y => v7 e x (by omega))
  · refine ⟨fun z => absurd rfl z, fun _ => ⟨Or.inl rfl, _, rfl, K0 (by rw [← eq]; exact hl) m6 (fun x j y1 y2 y3 y4 => by rw [q6 x j y1 y2 y3]; exact all5 x j y1 y2 y3 y4)⟩⟩
def zmcond (g : zM) (es w p ts f : Int) : Prop := (1 ≤ es ∧ es < ((2 ^ ((g 54 47)).toNat : Nat) : Int) ∧ pcn 12 es.toNat ≤ 5) ∧ (0 ≤ ts ∧ ts < ((2 ^ ((g 54 52)).toNat : Nat) : Int) ∧ pcn 12 ts.toNat ≤ 8) ∧ (1 ≤ w ∧ w ≤ 5) ∧ (1 ≤ p ∧ p ≤ 5) ∧ 0 ≤ f ∧ f ≤ 1
noncomputable def zmres (g : zM) (es w p ts f : Nat) : Option (List Nat) := men (zmk (zmA g ts) (zmaw g es) (zmtl g ts).length p f) w (zmaw g es).length []
theorem pcn_pos {x : Nat} (hx : x < 4096) (h : 1 ≤ x) : 1 ≤ pcn 12 x := by
  apply Classical.byContradiction
  intro w
  have : x = 0 := by
    apply Nat.eq_of_testBit_eq
    intro j
    rw [Nat.zero_testBit]
    by_cases q : j < 12
    · cases hb : x.testBit j with
      | false => rfl
      | true => have := pcn_x 12 q hb; omega
    · exact Nat.testBit_lt_two_pow (Nat.lt_of_lt_of_le hx (Nat.le_trans (by decide : 4096 ≤ 2 ^ 12) (Nat.pow_le_pow_right (by decide : 0 < 2) (by omega : 12 ≤ j))))
  omega
theorem c_Es_months {d : Nat} {m g : zM} {h : zH} {Q : zQ} {es w p ts f : Int} (F : zFix m) (L : zLay h) (B : xCnt g m) (E : xEng g m h) (D : xCal g m)
    (K0 : ¬ zmcond g es w p ts f → Q (some (.inl (-1))) m h)
    (K1 : zmcond g es w p ts f → zmres g es.toNat w.toNat p.toNat ts.toNat f.toNat = none → ∀ m', zcme m m' → (∀ e, (m' 45 e) = (m 45 e)) → Q (some (.inl (-2))) m' h)
    (K2 : zmcond g es w p ts f → ∀ l, zmres g es.toNat w.toNat p.toNat ts.toNat f.toNat = some l → ∀ m', zcme m m' → (∀ e, 0 ≤ e → e < 9 → (m' 45 e) = zmo2 (zmaw g es.toNat) l e (zmaw g es.toNat).length 0) → Q (some (.inl 0)) m' h) : zcal WP (d + 11) n_Es_months [.inr (.inr 1), .inl es, .inl w, .inl p, .inl ts, .inl f] m h Q := by
  have ⟨⟨b1, b2, b3, b4, b5⟩, c1, c2, c3, c4, c5⟩ := id B
  have pE := Nat.le_trans (Nat.pow_le_pow_right (by decide : 0 < 2) (by omega : ((g 54 47)).toNat ≤ 9)) (by decide : 2 ^ 9 ≤ 512)
  have pT := lt12 (k := ((g 54 52)).toNat) (by omega)
  have h57 : ∀ a b : Int, (a = 1 ∧ (1 ≤ es ∧ es < ((2 ^ ((g 54 47)).toNat : Nat) : Int) ∧ pcn 12 es.toNat ≤ 5) ∨ a = 0 ∧ ¬ (1 ≤ es ∧ es < ((2 ^ ((g 54 47)).toNat : Nat) : Int) ∧ pcn 12 es.toNat ≤ 5)) → (b = 1 ∧ (0 ≤ ts ∧ ts < ((2 ^ ((g 54 52)).toNat : Nat) : Int) ∧ pcn 12 ts.toNat ≤ 8) ∨ b = 0 ∧ ¬ (0 ≤ ts ∧ ts < ((2 ^ ((g 54 52)).toNat : Nat) : Int) ∧ pcn 12 ts.toNat ≤ 8)) → q_Es_months_57 (d + 10) 1 es w p ts f a b m h Q := fun a b ha hb => by
    apply s_Es_months_57
    refine ⟨fun z => K0 (fun q => by have := q.1; omega), fun z => ⟨fun z2 => K0 (fun q => by have := q.2.1; omega), fun z2 => ?_⟩⟩
    have ha := (ha.resolve_right (fun q => z q.1)).2
    have hb := (hb.resolve_right (fun q => z2 q.1)).2
    refine c_within (fun q1 => ⟨1, rfl, fun v => absurd v (by decide), fun _ => ?_⟩) (fun q1 => ⟨0, rfl, fun _ => K0 (fun q => q1 q.2.2.1), fun v => absurd rfl v⟩)
    refine c_within (fun q2 => ⟨1, rfl, fun v => absurd v (by decide), fun _ => ?_⟩) (fun q2 => ⟨0, rfl, fun _ => K0 (fun q => q2 q.2.2.2.1), fun v => absurd rfl v⟩)
    refine c_within (fun q3 => ⟨1, rfl, fun _ => ⟨k1 L, k1 L, ?_⟩, fun v => absurd (by decide) v⟩) (fun q3 => ⟨0, rfl, fun v => absurd rfl v, fun _ => K0 (fun q => q3 q.2.2.2.2)⟩)
    have cd : zmcond g es w p ts f := ⟨ha, hb, q1, q2, q3⟩
    have K1 := K1 cd
    have K2 := K2 cd
    rw [f1_5 F, f1_2 F]
    refine ⟨k43 L, ?_⟩
    obtain ⟨es, rfl⟩ : ∃ n : Nat, es = n := ⟨es.toNat, by omega⟩
    obtain ⟨ts, rfl⟩ : ∃ n : Nat, ts = n := ⟨ts.toNat, by omega⟩
    obtain ⟨w, rfl⟩ : ∃ n : Nat, w = n := ⟨w.toNat, by omega⟩
    obtain ⟨p, rfl⟩ : ∃ n : Nat, p = n := ⟨p.toNat, by omega⟩
    obtain ⟨f, rfl⟩ : ∃ n : Nat, f = n := ⟨f.toNat, by omega⟩
    have t1 : ((es : Nat) : Int).toNat = es := by omega
    have t2 : ((ts : Nat) : Int).toNat = ts := by omega
    have t3 : ((w : Nat) : Int).toNat = w := by omega
    have t4 : ((p : Nat) : Int).toNat = p := by omega
    have t5 : ((f : Nat) : Int).toNat = f := by omega
    rw [t1] at ha
    rw [t2] at hb
    rw [t1, t2, t3, t4, t5] at K1
    rw [t1, t2, t3, t4, t5] at K2
    have el : es < 2 ^ ((g 54 47)).toNat := by omega
    have tl : ts < 2 ^ ((g 54 52)).toNat := by omega
    have e5 : (zmaw g es).length = pcn 12 es := by unfold zmaw; rw [ztr_len, pcn_ext el 12 (by omega)]
    have t8 : (zmtl g ts).length = pcn 12 ts := by unfold zmtl; rw [ztr_len, pcn_ext tl 12 (by omega)]
    have e1 := pcn_pos (x := es) (by omega) (by omega)
    refine c_Cd_ask F L B E D (by omega) (by omega) (by omega) (by omega) fun m4 w4 x1 x2 x3 x4 => ⟨k1 L, ?_⟩
    have F4 := zcak_F F w4
    rw [f1_5 F4]
    refine ⟨k43 L, ?_⟩
    refine c_Cd_solve F4 L (fun i hi => lt512 (by omega) (zma2_lt _)) (by omega) (fun x hx => by have := (ztr_mem.1 hx).1; omega) (fun i j hi hj hh => ztr_inj hi hj hh) ⟨by rw [← e5] at e1; exact e1, by have q := ha.2.2; rw [← e5] at q; exact q⟩ (by omega) (by omega) x1 x2 x3 x4 (fun hn m5 w5 => ?_) (fun l hl m5 w5 v5 => ?_)
    · refine ⟨fun _ => ?_, fun v => absurd rfl v⟩
      exact K1 hn m5 (fun i j y1 y2 y3 y4 y5 y6 y7 y8 => by rw [w5 i j y5 y6 y7 (by omega)]; exact w4 i j y2 y3 y4 (by omega)) (fun e => by rw [w5 _ _ (by decide) (by decide) (by decide) (by omega)]; exact w4 45 e (by decide) (by decide) (by decide) (by omega))
    · refine ⟨fun v => absurd v (by decide), fun _ => ?_⟩
      exact K2 l hl m5 (fun i j y1 y2 y3 y4 y5 y6 y7 y8 => by rw [w5 i j y1 y5 y6 y7 (by omega)]; exact w4 i j y2 y3 y4 (by omega)) v5
  have h28 : ∀ a : Int, (a = 1 ∧ (1 ≤ es ∧ es < ((2 ^ ((g 54 47)).toNat : Nat) : Int) ∧ pcn 12 es.toNat ≤ 5) ∨ a = 0 ∧ ¬ (1 ≤ es ∧ es < ((2 ^ ((g 54 47)).toNat : Nat) : Int) ∧ pcn 12 es.toNat ≤ 5)) → q_Es_months_28 (d + 10) 1 es w p ts f a m h Q := fun a ha => by
    apply s_Es_months_28
    rw [f1_2 F]
    refine ⟨k1 L, k19 L, ?_⟩
    refine c_Bd_areTurns L B (fun q => ⟨1, rfl, fun v => absurd v (by decide), fun _ => ?_⟩) (fun q => ⟨0, rfl, fun _ => h57 a 0 ha (Or.inr ⟨rfl, fun z => q ⟨z.1, z.2.1⟩⟩), fun v => absurd rfl v⟩)
    refine c_Jn_bitCount ?_
    have e : zpc ts = ((pcn 12 ts.toNat : Nat) : Int) := by rw [← zpc_p _ (by omega), show ((ts.toNat : Nat) : Int) = ts by omega]
    rw [e]
    exact ⟨fun v => h57 a 0 ha (Or.inr ⟨rfl, fun z => by have := z.2.2; omega⟩), fun v => h57 a 1 ha (Or.inl ⟨rfl, q.1, q.2, by omega⟩)⟩
  apply e_Es_months
  apply s_Es_months_0
  rw [f1_2 F]
  refine ⟨k1 L, k19 L, ?_⟩
  refine c_Bd_areEngines L B (fun q => ⟨1, rfl, fun v => absurd v (by decide), fun _ => ?_⟩) (fun q => ⟨0, rfl, fun _ => h28 0 (Or.inr ⟨rfl, fun z => q ⟨by omega, z.2.1⟩⟩), fun v => absurd rfl v⟩)
  refine c_Jn_bitCount ?_
  have e : zpc es = ((pcn 12 es.toNat : Nat) : Int) := by rw [← zpc_p _ (by omega), show ((es.toNat : Nat) : Int) = es by omega]
  rw [e]
  refine c_within (fun q2 => ⟨1, rfl, fun v => absurd v (by decide), fun _ => h28 1 (Or.inl ⟨rfl, ?_, q.2, by omega⟩)⟩) (fun q2 => ⟨0, rfl, fun _ => h28 0 (Or.inr ⟨rfl, fun z => q2 ⟨?_, by have := z.2.2; omega⟩⟩), fun v => absurd rfl v⟩)
  · apply Classical.byContradiction
    intro v
    have : es.toNat = 0 := by omega
    rw [this, pcn_0] at q2
    omega
  · have := pcn_pos (x := es.toNat) (by omega) (by omega); omega

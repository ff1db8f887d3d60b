/-! THE READING: the model's rules, their literals. -/
def zpp (po pa : Bool) : List Int := (if pa then [9] else []) ++ (if po then [10] else [])
/-- the literals done so far, and what is pending -/
def zcq (done : List zLit) (o : Bool) (c : List Int) (po pa : Bool) : Prop := ∀ l ls, l.1 = o → zcd (done ++ l :: ls) true false false = c ++ (zlc l ++ zcd ls false po pa)
theorem zcq_0 : zcq [] true [] false false := fun l ls _ => by simp [zcd]
theorem zcd_c (l : zLit) (ls : List zLit) (po pa : Bool) : zcd (l :: ls) false po pa = if l.1 then (if pa then [20009] else []) ++ ((if po then [20010] else []) ++ (zlc l ++ zcd ls false true false)) else (if pa then [20009] else []) ++ (zlc l ++ zcd ls false po true) := by
  conv => lhs; unfold zcd
theorem zcq_or {done : List zLit} {o po pa : Bool} {c : List Int} {l : zLit} (h : zcq done o c po pa) (hl : l.1 = o) : zcq (done ++ [l]) true (c ++ (zlc l ++ ((if pa then [20009] else []) ++ (if po then [20010] else [])))) true false := fun l' ls hl' => by
  rw [List.append_assoc, List.singleton_append, h l (l' :: ls) hl, zcd_c, if_pos hl']
  simp only [List.append_assoc]
theorem zcq_and {done : List zLit} {o po pa : Bool} {c : List Int} {l : zLit} (h : zcq done o c po pa) (hl : l.1 = o) : zcq (done ++ [l]) false (c ++ (zlc l ++ (if pa then [20009] else []))) po true := fun l' ls hl' => by
  rw [List.append_assoc, List.singleton_append, h l (l' :: ls) hl, zcd_c, if_neg (by rw [hl']; decide)]
  simp only [List.append_assoc]
theorem zcq_end {done : List zLit} {o po pa : Bool} {c : List Int} {l : zLit} (h : zcq done o c po pa) (hl : l.1 = o) : zcd (done ++ [l]) true false false = c ++ (zlc l ++ ((if pa then [20009] else []) ++ (if po then [20010] else []))) := by
  rw [h l [] hl]
  conv => lhs; rw [show zcd [] false po pa = (if pa then [20009] else []) ++ (if po then [20010] else []) from by unfold zcd; rfl]
theorem cem_zpp {po pa : Bool} {X : List Int} : (∀ r : Int, r ≤ 1 → cem r (zpp po pa) X = ([], X ++ ((if pa then [20009] else []) ++ (if po then [20010] else [])))) ∧ cem 2 (zpp po pa) X = (zpp po false, X ++ (if pa then [20009] else [])) := by
  have h9 : zrk 9 = 2 := rfl
  have h10 : zrk 10 = 1 := rfl
  constructor
  · intro r hr
    cases po <;> cases pa <;> simp [zpp, cem, h9, h10]
    · omega
    · omega
    · rw [if_neg (by omega), if_neg (by omega)]
  · cases po <;> cases pa <;> simp [zpp, cem, h9, h10]
theorem rkh_zpp (po pa : Bool) : rkh (zpp po pa) < 3 := by cases po <;> cases pa <;> decide
set_option maxHeartbeats 2000000 in
theorem tell289 {d t0 K : Nat} {T : Nat → zTok} {s0 : zCS} {lo ll fr so : Int} {dp e2 : Nat} {c0 v nm : List Int} {rs : List zRu} {m0 : zM} {h : zH} {P : zM → zH → Prop} (hT : zkT T) (I0 : cin s0) (hs0 : s0.2.2.2.1 = 0) (F0 : zFix m0) (L : zLay h) (Y0 : yT T m0) (hK : K ≤ 5) (mK : (m0 54 18) = (K : Int)) (hrs : rs.length < 24) (hlo : 0 ≤ lo ∧ lo ≤ 2000 + (c0.length : Int)) (hll : 0 ≤ ll ∧ 3 * ll ≤ 420 * (K : Int) + (t0 : Int)) (ok : zokr (so, nm, v, []))
    (K1 : ∀ t R m', R.1 = so → yTold T s0 K m0 t0 lo ll fr dp c0 rs t R m' → P m' h)
    (K2 : ∀ m', yfr lo ll (24 * (K : Int) + (rs.length : Int)) K m0 m' → yB T s0 m' → P m' h) :
    ∀ (r t : Nat) (done : List zLit) (o : Bool) (c : List Int) (po pa : Bool) (m : zM), 401 ≤ t + r → t ≤ 400 → t0 < t → cOK T s0 t → cS T s0 t = (6, 1, 0, t, zpp po pa, c0 ++ (v ++ c), rs ++ [(so, some nm, c0.length, c0.length + v.length, e2)], fr, dp) → zcq done o c po pa → (done = [] → o = true) → (∀ l ls, done = l :: ls → l.1 = true) → (∀ l ∈ done, zokl l) →
      yfr lo ll (24 * (K : Int) + (rs.length : Int)) K m0 m → (m 54 11) = (t : Int) → (m 54 12) = 0 → (m 54 13) = 0 → lo ≤ (m 54 34) ∧ (m 54 34) ≤ lo + ((v ++ c).length : Int) → (m 54 27) = ll + (done.length : Int) → 3 * done.length + t0 ≤ t → m 63 (K : Int) = (rs.length : Int) → yPr m (24 * (K : Int) + (rs.length : Int)) so nm v ll (m 54 34) → yLs m done ll (m 54 27) (m 54 34) →
      q_Mo_tellRule_289 (d + 5) 54 (24 * (K : Int) + (rs.length : Int)) 1 (zb o) m h (zk0 P) := by
  have hr : 0 ≤ 24 * (K : Int) + (rs.length : Int) ∧ 24 * (K : Int) + (rs.length : Int) < 168 := by omega
  intro r
  induction r with
  | zero => intro t done o c po pa m hr' q4; omega
  | succ r ih =>
    intro t done o c po pa m hr' q4 q0 O S Z ho hf hok w mt mo mf mc ml h3 mr pr ls
    have F := yfr_F F0 w
    have Y := yT_r Y0 w
    have hb := fun (m1 : zM) (w1 : yfr lo ll (24 * (K : Int) + (rs.length : Int)) K m0 m1) (B1 : yB T s0 m1) (a4 a5 : Int) => tell289B (d := d + 2) (a4 := a4) (a5 := a5) (P := P) (yfr_F F0 w1) L hr B1 (fun m' w' B' => K2 m' (yfr_b w1 w') B')
    apply s_Mo_tellRule_289
    refine ⟨fun z => absurd z (by decide), fun _ => ⟨k54 L, fun z => absurd mf z, fun _ => ⟨k54 L, ?_⟩⟩⟩
    refine c_Mo_literal hT I0 hs0 F L Y O q4 S (rkh_zpp po pa) (by rw [List.length_append]; omega) (by omega) mt mo mf rfl rfl ?_ ?_
    · intro t' l st1 c1 m1 q3 O1 S1 hcem nc hl zl w1 mt1 q14 mo1 mf1 ml1a ml1b lit1 zml1 le1
      have W1 : yfr lo ll (24 * (K : Int) + (rs.length : Int)) K m0 m1 := yfr_l w w1 mc.1 (by omega)
      have F1 := yfr_F F0 W1
      have Y1 := yT_r Y0 W1 t' q14 (cOK_n O1)
      have mr1 : m1 63 (K : Int) = (rs.length : Int) := by rw [w1 _ _ (by omega) (by omega) (by omega) (by omega)]; exact mr
      have pr1 : yPr m1 (24 * (K : Int) + (rs.length : Int)) so nm v ll (m1 54 34) := yPr_fr pr ml1a (fun x j y1 y2 y3 y4 => w1 x j (by omega) (by omega) (by omega) (by omega)) (fun x y1 y2 => w1 x _ (by omega) (by omega) (by omega) (by omega))
      have ls1 : yLs m1 (done ++ [l]) ll (m1 54 27) (m1 54 34) := by
        have a := yLs_fr ls hll.1 ml1a (fun x j y1 y2 y3 y4 => w1 x j (by omega) (by omega) (by omega) (by omega)) (fun x j y1 y2 y3 y4 => w1 x j (by omega) (by omega) (by omega) (by omega))
        rw [lit1]
        refine ⟨zmls_app done _ _ a.1 zml1, fun i y1 y2 => ?_⟩
        by_cases z : i < m 54 27
        · exact a.2 i y1 z
        · rw [show i = m 54 27 by omega]; exact Int.le_of_eq le1
      have dl : (done ++ [l]).length = done.length + 1 := by rw [List.length_append, List.length_singleton]
      have hf1 : ∀ l' ls', done ++ [l] = l' :: ls' → l'.1 = true := fun l' ls' q => by
        cases done with
        | nil =>
          have : l = l' := by simpa using (List.cons.inj q).1
          rw [← this, hl]; exact ho rfl
        | cons x xs => exact hf l' xs (by rw [List.cons_append] at q; rw [(List.cons.inj q).1])
      have hok1 : ∀ x ∈ done ++ [l], zokl x := fun x hx => by
        rcases List.mem_append.1 hx with z | z
        · exact hok x z
        · rw [List.mem_singleton.1 z]; exact zl
      have go := @cgo_80 2 (T t').1
      rw [if_neg (by decide), if_neg (by decide)] at go
      have lz := fun X : List Int => List.length_append (as := zlc l) (bs := X)
      -- on
      have on : ∀ (o' : Bool) (c' : List Int) (po' pa' : Bool), cgo' (8, 2, 0, t', st1, c1, rs ++ [(so, some nm, c0.length, c0.length + v.length, e2)], fr, dp) (T t').1 → (T t').1 = 28 ∨ (T t').1 = 29 → ctk' (8, 2, 0, t', st1, c1, rs ++ [(so, some nm, c0.length, c0.length + v.length, e2)], fr, dp) (T t') = (6, 1, 0, t' + 1, zpp po' pa', c0 ++ (v ++ c'), rs ++ [(so, some nm, c0.length, c0.length + v.length, e2)], fr, dp) → zcq (done ++ [l]) o' c' po' pa' → c.length + (zlc l).length ≤ c'.length → q_Mo_tellRule_329 (d + 5) 54 (24 * (K : Int) + (rs.length : Int)) (zb o') m1 h (zk0 P) := fun o' c' po' pa' g kk nx Z' hc' => by
        apply s_Mo_tellRule_329
        refine ⟨fun z => absurd z (by decide), fun _ => ⟨k54 L, ?_⟩⟩
        refine c_Mo_next (pl := ((T t').2.1 : Int)) F1 L mf1 mt1 q14 Y1.2.1 (fun h4' m2 w2 a2 => ?_) (fun h4' m2 w2 a2 b2 => ?_)
        · have nf : ¬ cfu' (8, 2, 0, t', st1, c1, rs ++ [(so, some nm, c0.length, c0.length + v.length, e2)], fr, dp) (T t').1 := by
            unfold cfu' cfu crw; dsimp only; omega
          have c2 : m2 54 34 = m1 54 34 := w2 _ _ (by decide)
          have l2 : m2 54 27 = m1 54 27 := w2 _ _ (by decide)
          have lc : (v ++ c').length = v.length + c'.length := List.length_append
          have lc0 : (v ++ c).length = v.length + c.length := List.length_append
          refine ih (t' + 1) (done ++ [l]) o' c' po' pa' m2 (by omega) (by omega) (by omega) (cOK_s O1 (by rw [S1]; exact g) (by rw [S1]; exact nf) (by omega)) (by show ctk' (cS T s0 t') (T t') = _; rw [S1]; exact nx) Z' (fun q => absurd q (by simp)) hf1 hok1 (yfr_s W1 fun i j y => w2 i j (by omega)) a2 (by rw [w2 _ _ (by decide)]; exact mo1) (by rw [w2 _ _ (by decide)]; exact mf1) ?_ ?_ (by omega) (by rw [w2 _ _ (by omega)]; exact mr1) ?_ ?_
          · rw [c2]; omega
          · rw [l2, dl]; omega
          · rw [c2]; exact yPr_fr pr1 (Int.le_refl _) (fun x j y1 y2 _ _ => w2 x j (by omega)) (fun x y1 y2 => w2 x _ (by omega))
          · rw [c2, l2]; exact yLs_fr ls1 hll.1 (Int.le_refl _) (fun x j y1 y2 _ _ => w2 x j (by omega)) (fun x j y1 y2 _ _ => w2 x j (by omega))
        · exact hb m2 (yfr_s W1 fun i j y => w2 i j (by omega)) (yB_mk q14 O1 S1 (by rw [w2 _ _ (by decide)]; exact mt1) a2 b2 (Or.inr ⟨g, Or.inl ⟨by omega, by dsimp only; omega⟩, rfl⟩)) _ _
      refine ⟨k54 L, ?_⟩
      refine c_Mo_is F1 L mf1 mt1 q14 Y1.1 (fun z => ⟨fun _ => ?_, fun q => absurd (by decide) q⟩) (fun z => ⟨fun q => absurd rfl q, fun _ => ⟨k54 L, ?_⟩⟩)
      · refine on true (c ++ (zlc l ++ ((if pa then [20009] else []) ++ (if po then [20010] else [])))) true false (go.2 (Or.inr (Or.inl z))) (Or.inl z) ?_ (zcq_or Z hl) (by simp only [List.length_append]; omega)
        unfold ctk'; dsimp only
        rw [ctk_8.2.2.2.1 (Or.inl z), z, show xvl 28 = 10 from rfl, show zrk 10 = 1 from rfl, hcem 1 (by decide), cem_zpp.1 1 (by decide)]
        simp only [List.append_assoc]
        rfl
      · refine c_Mo_is F1 L mf1 mt1 q14 Y1.1 (fun z2 => ⟨fun q => absurd q (by decide), fun _ => ?_⟩) (fun z2 => ⟨fun _ => ⟨fun _ => ?_, fun q => absurd rfl q⟩, fun q => absurd rfl q⟩)
        · refine on false (c ++ (zlc l ++ (if pa then [20009] else []))) po true (go.2 (Or.inr (Or.inr (Or.inl z2)))) (Or.inr z2) ?_ (zcq_and Z hl) (by simp only [List.length_append]; omega)
          unfold ctk'; dsimp only
          rw [ctk_8.2.2.2.1 (Or.inr z2), z2, show xvl 29 = 9 from rfl, show zrk 9 = 2 from rfl, hcem 2 (by decide), cem_zpp.2]
          simp only [List.append_assoc]
          rfl
        · apply s_Mo_tellRule_289
          refine ⟨fun _ => ?_, fun q => absurd rfl q⟩
          have ze := zcq_end Z hl
          have lv : (v ++ zcd (done ++ [l]) true false false).length = v.length + (zcd (done ++ [l]) true false false).length := List.length_append
          have le2 : (zcd (done ++ [l]) true false false).length = c.length + ((zlc l).length + ((if pa then [20009] else []) ++ (if po then [20010] else []) : List Int).length) := by rw [ze]; simp only [List.length_append]
          have lc0 : (v ++ c).length = v.length + c.length := List.length_append
          refine tell348 (d := d + 2) (s := (8, 2, 0, t', st1, c1, rs ++ [(so, some nm, c0.length, c0.length + v.length, e2)], fr, dp)) (R := (so, nm, v, done ++ [l])) (part := 2) (t0 := t0) (lo := lo) (ll := ll) L F0 hK mK hrs q14 (by omega) O1 S1 rfl rfl ?_ (fun k4 => ?_) Y1 W1 mt1 mo1 mf1 ?_ ?_ ?_ mr1 pr1 ls1 hll.1 ?_ (fun m' Q => K1 _ _ m' rfl Q) K2
          · constructor
            · intro q
              rcases go.1 q with y | y | y | y
              · exact absurd y nc
              · exact absurd y z
              · exact absurd y z2
              · exact y
            · exact fun q => go.2 (Or.inr (Or.inr (Or.inr q)))
          · unfold ctk'; dsimp only
            rw [ctk_8.2.2.2.2.2 k4, hcem 0 (by decide), cem_zpp.1 0 (by decide), if_neg (by decide : ¬ (2 : Int) = 0), cup_app, ze]
            dsimp only
            simp only [List.append_assoc, List.length_append, Nat.add_assoc]
          · dsimp only; omega
          · dsimp only; omega
          · dsimp only; omega
          · obtain ⟨k1', k2', k3', _, _⟩ := ok
            exact ⟨k1', k2', k3', hok1, hf1⟩
    · intro m1 w1 B1
      have W1 : yfr lo ll (24 * (K : Int) + (rs.length : Int)) K m0 m1 := yfr_l w w1 mc.1 (by omega)
      have hf1 := yB_f B1
      exact ⟨k54 L, c_Mo_is0 L (by omega) ⟨fun q => absurd rfl q, fun _ => ⟨k54 L, c_Mo_is0 L (by omega) ⟨fun _ => ⟨fun _ => hb m1 W1 B1 _ _, fun q => absurd rfl q⟩, fun q => absurd rfl q⟩⟩⟩⟩

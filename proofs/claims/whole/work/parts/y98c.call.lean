/-! SOUNDNESS: the calls. -/
section ZU
variable {G : zG} {l : Launch} {k pc n a : Nat} {L : zL} {S : List zV} {m : zM} {h : zH}
theorem ztk_spec : ∀ (j : Nat) (S acc : List zV) (F : List zV → List zV → Prop), ztk j S acc F → ∃ B S', S = B ++ S' ∧ B.length = j ∧ F (B.reverse ++ acc) S' := by
  intro j
  induction j with
  | zero => intro S acc F H; exact ⟨[], S, rfl, rfl, H⟩
  | succ j ih =>
    intro S acc F H
    cases S with
    | nil => exact H.elim
    | cons v S =>
      obtain ⟨B, S', e1, e2, e3⟩ := ih S (v :: acc) F H
      exact ⟨v :: B, S', by rw [e1]; rfl, by simp [e2], by simpa using e3⟩
theorem zcall_fin {p : Program} {e : Env} {R : Room} {s : State} {mid : MethodId} {args av : Array Value} {below : List Frame} {meth : Method} {c : Code} {H : Heap} {locs : List Loc} {cells slots mc ms : Nat} {Q : State → Prop} {ls : Array Slot} {st0 rest : List Value} {r : Option zV} {m1 : zM} {h1 : zH}
    (hr : va_Run p l e R s mid args below meth c H locs cells slots mc ms (F0 mid pc ls st0) rest (zQc G r m1 h1 av) (zA G)) (hR : zRel G m h H) (hnx : nx h ≤ nx h1) (hV : va_S (zA G) s.heap H locs)
    (kk : ∀ (H1 : Heap) (locs1 : List Loc), (∀ v, r = some v → zrg v) → zRel G m1 h1 H1 → va_S (zA G) s.heap H1 locs1 → W p l e R s mid args below meth c H1 locs1 (cells + mc) (slots + ms) Q (F0 mid (pc + 3) ls ((r.map (zvV G)).toList ++ rest))) :
    W p l e R s mid args below meth c H locs cells slots Q (F0 mid pc ls st0) := by
  intro T hT X
  obtain ⟨v, st₀, t, T', L, h0, X', hL, e1, e2, ⟨hv, hrr, hR1⟩, st⟩ := hr T hT X
  cases hv
  obtain ⟨t2, a1, b1⟩ := kk T'.heap (locs ++ L) hrr (by rw [e1]; exact hR1) ⟨by rw [e1, hR1.1.2]; refine Nat.le_trans hV.1 ?_; rw [hR.1.2]; have := hR.1.1; omega, fun q q1 q2 => by
      rw [e1, hR1.2.1 q (Nat.not_le.mp q2), ← hR.2.1 q (Nat.not_le.mp q2)]; exact hV.2.1 q q1 q2, fun q hq => by
      rcases List.mem_append.mp hq with h | h
      · exact hV.2.2 q h
      · exact hL q h⟩ T' rfl X'
  exact ⟨t2, st t2 a1, b1⟩
theorem zlinkM {o i k f w : Nat} (ho : o < 20) (he : zlook (zmL o) i = some (k, f, w)) : 1 ≤ k ∧ k ≤ 283 ∧ ((f = 0 ∧ Cond.methodLink (zon o) i (zyn k) ∈ zwsG) ∨ (f ≠ 0 ∧ Cond.methodLinkNest (zon o) i (zyn k) Z_zho ∈ lw_tbl)) := by
  have h := List.all_eq_true.mp (List.all_eq_true.mp zM_ok o (List.mem_range.mpr ho)) _ (zlook_mem he)
  unfold zckM at h
  simp only [Bool.and_eq_true] at h
  obtain ⟨⟨h1, h2⟩, h4⟩ := h
  refine ⟨Nat.le_of_ble_eq_true h1, Nat.le_of_ble_eq_true h2, ?_⟩
  match f, h4 with
  | 0, h4 => exact Or.inl ⟨rfl, zword (by simpa using h4) rfl⟩
  | f + 1, h4 => exact Or.inr ⟨by omega, List.mem_of_getElem? (by simpa using h4)⟩
theorem zon_zcn {o : Nat} (h : o ≤ 12) : zon o = zcn (o + 1) := by
  rcases (show o = 0 ∨ o = 1 ∨ o = 2 ∨ o = 3 ∨ o = 4 ∨ o = 5 ∨ o = 6 ∨ o = 7 ∨ o = 8 ∨ o = 9 ∨ o = 10 ∨ o = 11 ∨ o = 12 by omega) with q | q | q | q | q | q | q | q | q | q | q | q | q <;> subst q <;> rfl
/-- the receiver -/
theorem zrecv (hG : zCtx G) {s : State} (hK : zK G s) {H : Heap} (hR : zRel G m h H) {b : Int} {o : Nat} (ho : o ≤ 13) (hb : kd h b = (o + 1 : Nat)) : b ≠ 0 ∧ ∃ cellB : Cell, H[zad G b]? = some cellB ∧ cellB.vm.isStatics = false ∧ s.vm.findClass (zon o) = some cellB.cls := by
  refine ⟨fun e => by have := hR.2.2.1.1; rw [← e, hb] at this; omega, ?_⟩
  by_cases ho2 : o ≤ 12
  · obtain ⟨-, ⟨cell, q1, q2, q3, -⟩, -⟩ := hR.2.2.2.1 b (o + 1) (by omega) (by omega) hb
    obtain ⟨-, hfc, -⟩ := zKn hG hK (c := o + 1) (by omega) (by omega)
    exact ⟨cell, q1, by rw [q3]; rfl, by rw [zon_zcn ho2, q2]; exact hfc⟩
  · have : o = 13 := by omega
    subst this
    obtain ⟨g1, g2⟩ := hR.2.2.2.2.2 b hb
    obtain ⟨s1, -, -⟩ := hG.2.2.2.2.2 b g1 g2
    obtain ⟨cell, y1, y2, y3, -⟩ := (va_O.moved hK.1 s1).kept (fun a ha hA => hR.2.1 a ha)
    have hzad : zad G b = G.2.1 b := if_neg (by omega)
    exact ⟨cell, by rw [hzad]; exact y1, y2, y3⟩
theorem zblind {A : List zV} : FrameBlind (zPc G A m h) := fun a U g mk q => ⟨q.1, q.2.1, q.2.2.blind⟩
/-- a call's step -/
def zCallStep (G : zG) (l : Launch) (k pc : Nat) (A S : List zV) (m : zM) (h : zH) (d' a : Nat) (r : Option zV) (m1 : zM) (h1 : zH) : Prop :=
  ∀ (p : Program) (e : Env) (R : Room) (s : State) (mid : MethodId) (args : Array Value) (below : List Frame) (meth : Method) (c : Code) (H : Heap) (locs : List Loc) (cells slots : Nat) (Q : State → Prop) (ls : Array Slot),
    zAt G k p s mid args meth c → ls.size = zmaxl k → zRel G m h H → va_S (zA G) s.heap H locs → d' + 4 ≤ R.frames → (d' + 4) * 40 ≤ R.locals → cells + (nx h1 - nx h).toNat ≤ R.cells → slots + (su h1 - su h).toNat ≤ R.slots →
    (∀ (H' : Heap) (locs' : List Loc), (∀ v, r = some v → zrg v) → zRel G m1 h1 H' → va_S (zA G) s.heap H' locs' → W p l e R s mid args below meth c H' locs' (cells + (nx h1 - nx h).toNat) (slots + (su h1 - su h).toNat) Q (F0 mid (pc + 3) ls ((r.map (zvV G)).toList ++ S.map (zvV G)))) →
    W p l e R s mid args below meth c H locs cells slots Q (F0 mid pc ls ((A.map (zvV G)).reverse ++ S.map (zvV G)))
theorem zcall_S (hG : zCtx G) (ho : zow k < 20) {d' x f w j : Nat} {A : List zV} {r : Option zV} {m1 : zM} {h1 : zH} (he : zlook (zmL (zow k)) x = some (a, f, w)) (hst : Z_zms a = true) (hj : zprm a j = true) (hAj : A.length = j) (hw8 : zwid S ≤ 8)
    (hA : ∀ v ∈ A, zrg v) (hlen : (zent A).length ≤ zmaxl a) (hnx : nx h ≤ nx h1) (hok : Z_zrok a r) (hrun : zRun G l d' a 0 (zpad (zmaxl a) (zent A)) [] m h r m1 h1) (hd : decode (zbytes k) pc = .ok (.invokestatic x, 3)) : zCallStep G l k pc A S m h d' a r m1 h1 := by
  intro p e R s mid args below meth cd H locs cells slots Q ls hat hls hR hV hf hlo hc hs kk
  obtain ⟨hx, hb, hml, hret, hlk, hown, hnm, hts, hK⟩ := hat
  obtain ⟨h1a, h2a, hlink⟩ := zlinkM ho he
  obtain ⟨w1, w2, w3, w4, w5, w6, w7, w8, w9⟩ := zmeth h1a h2a
  have hM := zMet (l := l) h1a h2a hA hlen hok hrun
  rw [hst] at w2
  have hwss : ∀ w ∈ (Cond.code (zyn a) (zbytes a) (zmaxl a) (zretT a) :: zwsG), ∀ (a' : Array Value) (U : State), s.WarmedH U.vm → w.before a' U = true := fun w hw a' U hW => by
    have hw : w ∈ zwsG := by rcases List.mem_cons.mp hw with rfl | hw; exact w1; exact hw
    exact word_at hW (zwsG_good w hw).2 (hts w hw)
  have hnp : ∀ sig, parseMethodDescriptor (zyn a).desc = some sig → j = sig.parameters.length := fun sig hsig => by
    unfold zprm at hj
    simp only [decide_eq_true_eq] at hj
    rw [hsig] at hj
    exact (Option.some.inj hj).symm
  have hpre : PreS s H (zPc G A m h) (A.map (zvV G)) := ⟨zblind, fun U hU hW => ⟨rfl, by rw [hU]; exact hR, hK.warm hW⟩⟩
  have hcat : 2 * (F0 mid pc ls ((A.map (zvV G)).reverse ++ S.map (zvV G))).monitorRoom + ((S.map (zvV G)).map fun v => v.category).sum ≤ 8 := lv_room (by rw [List.map_map]; show (S.map fun v => (zvV G v).category).sum ≤ 8; rw [← zwid_sum]; exact hw8)
  rcases hlink with ⟨-, hl⟩ | ⟨-, hl⟩
  · exact zcall_fin (va_runS (n := j) ⟨hx, hb, hml, hown, hts⟩ hM ⟨⟨rfl, rfl, by show d' + 3 + 1 ≤ _; omega, by show 8 + (zmaxl a + 11) + (d' + 3) * 40 ≤ _; omega, hwss, List.mem_cons_self, hts _ w1, hts _ w4, ⟨w8, w9⟩, hnp, hts _ hl⟩, hts _ w2⟩ hpre rfl (by simpa using hAj) hls rfl hcat hd ⟨hc, hs⟩) hR hnx hV kk
  · exact zcall_fin (va_runSN (n := j) ⟨hx, hb, hml, hown, hts⟩ hM ⟨⟨⟨rfl, rfl, by show d' + 3 + 1 ≤ _; omega, by show 8 + (zmaxl a + 11) + (d' + 3) * 40 ≤ _; omega, hwss, List.mem_cons_self⟩, hts _ w1, hts _ w4, ⟨w8, w9⟩, hnp, va_Nw.use rfl (hK.2.1 _ hl (Or.inr ⟨_, _, _, _, rfl⟩))⟩, hts _ w2, trivial⟩ hpre rfl (by simpa using hAj) hls rfl hcat hd ⟨hc, hs⟩) hR hnx hV kk
theorem zcall_V (hG : zCtx G) (ho : zow k < 20) {d' x f w j : Nat} {b : Int} {A : List zV} {r : Option zV} {m1 : zM} {h1 : zH} (he : zlook (zmL (zow k)) x = some (a, f, w)) (hst : Z_zms a = false) (hj : zprm a j = true) (hAj : A.length = j) (hw8 : zwid S ≤ 8) (ho2 : zow a ≤ 13) (hb0 : kd h b = (zow a + 1 : Nat))
    (hA : ∀ v ∈ (.inr (.inr b)) :: A, zrg v) (hlen : (zent ((.inr (.inr b)) :: A)).length ≤ zmaxl a) (hnx : nx h ≤ nx h1) (hok : Z_zrok a r) (hrun : zRun G l d' a 0 (zpad (zmaxl a) (zent ((.inr (.inr b)) :: A))) [] m h r m1 h1)
    (hd : (decode (zbytes k) pc = .ok (.invokevirtual x, 3) ∧ zsel a = true) ∨ (decode (zbytes k) pc = .ok (.invokespecial x, 3) ∧ (zyn a).name = "<init>" ∧ zretT a = none)) : zCallStep G l k pc ((.inr (.inr b)) :: A) S m h d' a r m1 h1 := by
  intro p e R s mid args below meth cd H locs cells slots Q ls hat hls hR hV hf hlo hc hs kk
  obtain ⟨hx, hb, hml, hret, hlk, hown, hnm, hts, hK⟩ := hat
  obtain ⟨h1a, h2a, hlink⟩ := zlinkM ho he
  obtain ⟨w1, w2, w3, w4, w5, w6, w7, w8, w9⟩ := zmeth h1a h2a
  have hM := zMet (l := l) h1a h2a hA hlen hok hrun
  rw [hst] at w2
  have hwss : ∀ w ∈ (Cond.code (zyn a) (zbytes a) (zmaxl a) (zretT a) :: zwsG), ∀ (a' : Array Value) (U : State), s.WarmedH U.vm → w.before a' U = true := fun w hw a' U hW => by
    have hw : w ∈ zwsG := by rcases List.mem_cons.mp hw with rfl | hw; exact w1; exact hw
    exact word_at hW (zwsG_good w hw).2 (hts w hw)
  have hnp : ∀ sig, parseMethodDescriptor (zyn a).desc = some sig → j = sig.parameters.length := fun sig hsig => by
    unfold zprm at hj
    simp only [decide_eq_true_eq] at hj
    rw [hsig] at hj
    exact (Option.some.inj hj).symm
  obtain ⟨hbz, cellB, y1, y2, y3⟩ := zrecv hG hK hR ho2 hb0
  have eb := zad_ref (G := G) hbz
  have hst0 : (((.inr (.inr b)) :: A).map (zvV G)).reverse ++ S.map (zvV G) = (A.map (zvV G)).reverse ++ .ref (zad G b) :: S.map (zvV G) := by
    rw [List.map_cons, eb]; simp
  have hpre0 : ∀ U : State, U.heap = H → s.WarmedH U.vm → zPc G ((.inr (.inr b)) :: A) m h (Value.ref (zad G b) :: A.map (zvV G)).toArray U := fun U hU hW => ⟨by rw [List.map_cons, eb], by rw [hU]; exact hR, hK.warm hW⟩
  rw [hst0]
  have hcat : 2 * (F0 mid pc ls ((A.map (zvV G)).reverse ++ .ref (zad G b) :: S.map (zvV G))).monitorRoom + ((S.map (zvV G)).map fun v => v.category).sum ≤ 8 := lv_room (by rw [List.map_map]; show (S.map fun v => (zvV G v).category).sum ≤ 8; rw [← zwid_sum]; exact hw8)
  rw [w5] at y3
  rcases hd with ⟨hd, hsl⟩ | ⟨hd, hin, hrt⟩
  · rcases hlink with ⟨-, hl⟩ | ⟨-, hl⟩
    · exact zcall_fin (va_runV (n := j) (C := (zyn a).cls) (b := zad G b) ⟨hx, hb, hml, hown, hts⟩ hM ⟨⟨rfl, rfl, by show d' + 3 + 1 ≤ _; omega, by show 8 + (zmaxl a + 11) + (d' + 3) * 40 ≤ _; omega, hwss, List.mem_cons_self, hts _ w1, hts _ w4, ⟨w8, w9⟩, hnp, hts _ hl⟩, hts _ w2, hts _ (w3 hsl)⟩ ⟨zblind, ⟨cellB, y1, y2, y3⟩, hpre0⟩ rfl (by simpa using hAj) hls rfl hcat hd ⟨hc, hs⟩) hR hnx hV kk
    · exact zcall_fin (va_runVN (n := j) (C := (zyn a).cls) (b := zad G b) ⟨hx, hb, hml, hown, hts⟩ hM ⟨⟨⟨rfl, rfl, by show d' + 3 + 1 ≤ _; omega, by show 8 + (zmaxl a + 11) + (d' + 3) * 40 ≤ _; omega, hwss, List.mem_cons_self⟩, hts _ w1, hts _ w4, ⟨w8, w9⟩, hnp, va_Nw.use rfl (hK.2.1 _ hl (Or.inr ⟨_, _, _, _, rfl⟩))⟩, hts _ w2, hts _ (w3 hsl)⟩ ⟨zblind, ⟨cellB, y1, y2, y3⟩, hpre0⟩ rfl (by simpa using hAj) hls rfl hcat hd ⟨hc, hs⟩) hR hnx hV kk
  · rw [hrt] at hM hwss w1
    rcases hlink with ⟨-, hl⟩ | ⟨-, hl⟩
    · exact zcall_fin (va_runI (n := j) (b := zad G b) ⟨hx, hb, hml, hown, hts⟩ hM ⟨⟨rfl, rfl, by show d' + 3 + 1 ≤ _; omega, by show 8 + (zmaxl a + 11) + (d' + 3) * 40 ≤ _; omega, hwss, List.mem_cons_self, hts _ w1, hts _ w4, ⟨w8, w9⟩, hnp, hts _ hl⟩, hin, hts _ w2⟩ ⟨zblind, hpre0⟩ rfl (by simpa using hAj) hls rfl hcat hd ⟨hc, hs⟩) hR hnx hV kk
    · exact zcall_fin (va_runIN (n := j) (b := zad G b) ⟨hx, hb, hml, hown, hts⟩ hM ⟨⟨⟨rfl, rfl, by show d' + 3 + 1 ≤ _; omega, by show 8 + (zmaxl a + 11) + (d' + 3) * 40 ≤ _; omega, hwss, List.mem_cons_self⟩, hts _ w1, hts _ w4, ⟨w8, w9⟩, hnp, va_Nw.use rfl (hK.2.1 _ hl (Or.inr ⟨_, _, _, _, rfl⟩))⟩, hin, hts _ w2⟩ ⟨zblind, hpre0⟩ rfl (by simpa using hAj) hls rfl hcat hd ⟨hc, hs⟩) hR hnx hV kk
end ZU

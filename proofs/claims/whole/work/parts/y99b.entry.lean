/-! THE CLAIM OUT OF ONE WALK OF THE LAW'S BODY. Your part is whole_start (and what it stands on); all else here is the same for every law, but numbers. -/
def R_law : String := "EngineShedLaw"
def lw_P (b : Addr) (xs : List Int32) (args : Array Value) (s : State) : Prop := args = #[.ref b] ∧ s.IntsAt b xs ∧ xs.length ≤ 4608 ∧ (Jvm.Cond.and given_1 narrow_1).before args s = true
def lw_Q (_ : Array Value) (s : State) (o : Outcome) (t : State) : Prop := o = .returned (some (.int 1)) ∧ Framed s o t [] 600000 7302250
def lw_Z (below : List Frame) (a : Array Value) (s : State) : State → Prop := fun t => ∃ o, t.status = .running ∧ Ended t below o ∧ lw_Q a s o t
/-- the law's own end, with 1 on the stack, nothing written that was there before, its room as the claim has it -/
theorem lw_ret {p : Program} {l : Launch} {e : Env} {s : State} {m : MethodId} {below : List Frame} {meth : Method} {c : Code} {b : Nat} (hx : p.tables.exec = Jvm.exec) (hb : c.code = code) (hr : meth.sig.returnType = ret) (hlocks : meth.locks = false) {pc : Nat} {H : Heap} {ls : Array Slot} (hdg : decode code pc = .ok (.ireturn, 1)) : W p l e room_1 s m #[Value.ref b] below meth c H [] 600000 7302250 (lw_Z below #[Value.ref b] s) (F0 m pc ls [.int 1]) := by
  intro T hT X
  obtain ⟨fs, hret, hrun, hended, hW, hframe⟩ := X.leave (v := some (.int 1)) (hlocks := hlocks) (fun h => by rw [hr] at h; cases h)
  have hmeth' : T.vm.method? m = some meth := X.method'
  refine ⟨T.setFrames fs, ?_, .returned (some (.int 1)), hrun, hended, rfl, ⟨_, rfl⟩, hW, hframe⟩
  jvm_step X.here [X.here.top, hx, hb, hdg, hmeth', hr, ret, narrow_b1]
  (try refine ⟨rfl, ?_⟩); (try refine ⟨rfl, ?_⟩)
  first | (intro acts; rw [hret _ acts rfl rfl rfl]) | rw [hret _ _ rfl rfl rfl]
  exact Steps.refl _
/-- what holds at the law's entry: the machine, the code, the tables' words (any of lw_tbl by 'hts w (by decide +kernel)'), the script of L ints xs at the cell b, what the Statement gives of the start (any of its parts by flat_of_before) -/
def lw_At (p : Program) (s : State) (m : MethodId) (meth : Method) (c : Code) (b L : Nat) (xs : Nat → Int32) : Prop :=
  p.tables.exec = Jvm.exec ∧ c.code = code ∧ meth.sig.returnType = ret ∧ c.maxLocals = 4 ∧ s.vm.findClass R_law = some m.cls ∧ (∀ w ∈ lw_tbl, w.before #[Value.ref b] s = true) ∧ va_X b L xs s s.heap ∧ b < s.heap.size ∧ meth.locks = false ∧ (Jvm.Cond.and given_1 narrow_1).before #[Value.ref b] s = true
/-! THE ENTRY: what the Statement gives of the start, as the abstract machine's start (its definitions: 08.start). -/
def Z_zsb : List (List Int32) := [[100, 97, 121, 32, 99, 108, 97, 115, 115, 32, 109, 105, 108, 101, 115, 32, 100, 97, 121, 115, 32, 108, 111, 111, 107, 101, 100, 32, 119, 111, 114, 110, 32, 108, 111, 97, 100, 32, 108, 105, 110, 101, 32, 104, 111, 117, 114, 115, 32, 102, 97, 114, 32, 108, 101, 110, 116, 32, 115, 112, 97, 114, 101, 32], [98, 97, 114, 32, 100, 117, 101, 32, 119, 101, 97, 114, 32, 99, 111, 97, 108, 32, 112, 114, 105, 99, 101, 32, 115, 116, 114, 105, 107, 101, 32], [102, 114, 111, 109, 32, 105, 102, 32, 110, 111, 116, 32, 97, 110, 100, 32, 111, 114, 32], [43, 45, 42, 47]]
def Z_zsl : List Nat := [64, 31, 19, 4]
def zix : Nat → Nat := fun i => match i with
  | 0 => 112
  | 1 => 118
  | 2 => 123
  | _ => 133

theorem zrk_ar : Cond.arrayOf (.static "EngineShed$Reader" "RANKS" "[I") .int ∈ flatC (Jvm.Cond.and given_1 narrow_1) := by decide +kernel
theorem zrk_len : Cond.eq (.length (.static "EngineShed$Reader" "RANKS" "[I")) (.int (Int32.ofNat 12)) ∈ flatC (Jvm.Cond.and given_1 narrow_1) := by decide +kernel
theorem zrk_el : ∀ j, j < 12 → Cond.eq (.elem (.static "EngineShed$Reader" "RANKS" "[I") (.int (Int32.ofNat j))) (.int (Int32.ofInt (zRk.getD j 0))) ∈ flatC (Jvm.Cond.and given_1 narrow_1) := by decide +kernel
theorem zrk_rg : ∀ j, j < 12 → -2147483648 ≤ zRk.getD j 0 ∧ zRk.getD j 0 < 2147483648 := by decide +kernel
theorem zst_ex : ∀ i, i < 4 → Cond.exactly (.string "EngineShed$Reader" (zix i)) "java/lang/String" ∈ flatC (Jvm.Cond.and given_1 narrow_1) := by decide +kernel
theorem zst_co : ∀ i, i < 4 → Cond.eq (.field (.string "EngineShed$Reader" (zix i)) "java/lang/String" "coder" "B") (.int 0) ∈ flatC (Jvm.Cond.and given_1 narrow_1) := by decide +kernel
theorem zst_ar : ∀ i, i < 4 → Cond.arrayOf (.field (.string "EngineShed$Reader" (zix i)) "java/lang/String" "value" "[B") .byte ∈ flatC (Jvm.Cond.and given_1 narrow_1) := by decide +kernel
theorem zst_le : ∀ i, i < 4 → Cond.eq (.length (.field (.string "EngineShed$Reader" (zix i)) "java/lang/String" "value" "[B")) (.int (Int32.ofNat (Z_zsl.getD i 0))) ∈ flatC (Jvm.Cond.and given_1 narrow_1) := by decide +kernel
theorem zst_el : ∀ i, i < 4 → ∀ j, j < Z_zsl.getD i 0 → Cond.eq (.elem (.field (.string "EngineShed$Reader" (zix i)) "java/lang/String" "value" "[B") (.int (Int32.ofNat j))) (.int ((Z_zsb.getD i []).getD j 0)) ∈ flatC (Jvm.Cond.and given_1 narrow_1) := by decide +kernel
theorem zst_ne : ∀ i, i < 4 → ∀ j, j < 4 → i ≠ j → Cond.not (.eq (.string "EngineShed$Reader" (zix i)) (.string "EngineShed$Reader" (zix j))) ∈ flatC (Jvm.Cond.and given_1 narrow_1) ∨ Cond.not (.eq (.string "EngineShed$Reader" (zix j)) (.string "EngineShed$Reader" (zix i))) ∈ flatC (Jvm.Cond.and given_1 narrow_1) := by decide +kernel
theorem zst_v : ∀ i, i < 4 → ∀ j, j < Z_zsl.getD i 0 → Int32.ofInt ((zTx i).getD j 0) = (Z_zsb.getD i []).getD j 0 ∧ -2147483648 ≤ (zTx i).getD j 0 ∧ (zTx i).getD j 0 < 2147483648 := by decide +kernel
theorem zst_l : ∀ i, i < 4 → (zTx i).length = Z_zsl.getD i 0 := by decide +kernel
theorem zst_w : ∀ i, i < 4 → Cond.stringRef "EngineShed$Reader" (zix i) (Z_ztx i) ∈ lw_tbl := by decide +kernel
theorem zst_o : ∀ o, o < 20 → ∀ e ∈ zsL o, o = 7 ∧ e.1 = zix e.2.1 ∧ e.2.1 < 4 := by decide +kernel
theorem zw_cs : Cond.eq (.static "java/lang/String" "COMPACT_STRINGS" "Z") (.int 1) ∈ flatC (Jvm.Cond.and given_1 narrow_1) := by decide +kernel
theorem zw_si : Cond.isRef (.static "jdk/internal/util/Preconditions" "SIOOBE_FORMATTER" "Ljava/util/function/BiFunction;") ∈ flatC (Jvm.Cond.and given_1 narrow_1) := by decide +kernel
theorem zw_l1 : Cond.laysStatic "EngineShed$Reader" "RANKS" "[I" ∈ lw_tbl ∧ Cond.initialized "EngineShed$Reader" ∈ lw_tbl := by decide +kernel
theorem zw_l2 : Cond.laysStatic "java/lang/String" "COMPACT_STRINGS" "Z" ∈ lw_tbl ∧ Cond.initialized "java/lang/String" ∈ lw_tbl := by decide +kernel
theorem zw_l3 : Cond.laysStatic "jdk/internal/util/Preconditions" "SIOOBE_FORMATTER" "Ljava/util/function/BiFunction;" ∈ lw_tbl ∧ Cond.initialized "jdk/internal/util/Preconditions" ∈ lw_tbl := by decide +kernel

def zG0 (s : State) (b tR tq : Nat) (adK adV : Nat → Nat) (kn : Nat → ClassId × (Nat → Nat)) : zG :=
  (s, fun a => if a = -1 then b else if a = -2 then tR else if -6 ≤ a ∧ a ≤ -3 then adK (-3 - a).toNat else if -10 ≤ a ∧ a ≤ -7 then adV (-7 - a).toNat else tq, fun c => (kn c).1, fun c => (kn c).2)
theorem zkd0 {L : Nat} {a : Int} : (a = -1 ∧ kd (zh0 L) a = 101) ∨ (a = -2 ∧ kd (zh0 L) a = 101) ∨ (-6 ≤ a ∧ a ≤ -3 ∧ kd (zh0 L) a = 14) ∨ (-10 ≤ a ∧ a ≤ -7 ∧ kd (zh0 L) a = 102) ∨ ((a < -10 ∨ -1 < a) ∧ kd (zh0 L) a = 0) := by
  unfold kd zh0
  simp only []
  (repeat' split) <;> omega
theorem zof_nat (n : Nat) : Int32.ofInt (n : Int) = n.toInt32 := by
  first
    | exact Int32.ofInt_eq_ofNat
    | exact Int32.ofInt_natCast n
    | rfl
section ZE
variable {s : State} {b tR tq L : Nat} {adK adV : Nat → Nat} {kn : Nat → ClassId × (Nat → Nat)} {xs : Nat → Int32}
theorem zrel0 (hL : L ≤ 4608) (hX : va_X b L xs s s.heap) (hR : va_T .int tR 12 (fun j => .int (Int32.ofInt (zRk.getD j 0))) (fun q => s.heap.size ≤ q) s s.heap)
    (hS : vk_S 4 Z_zsl Z_zsb adK adV (fun q => s.heap.size ≤ q) s s.heap) : zRel (zG0 s b tR tq adK adV kn) (zm0 xs) (zh0 L) s.heap := by
  have hb : b < s.heap.size := by obtain ⟨cell, q, -⟩ := hX; exact (Array.getElem?_eq_some_iff.mp q).1
  have hr : tR < s.heap.size := by obtain ⟨cell, q, -⟩ := hR; exact (Array.getElem?_eq_some_iff.mp q).1
  have hk : ∀ i, i < 4 → adK i < s.heap.size := fun i hi => by obtain ⟨cell, q, -⟩ := (hS.1 i hi).1; exact (Array.getElem?_eq_some_iff.mp q).1
  have hv : ∀ i, i < 4 → adV i < s.heap.size := fun i hi => by obtain ⟨cell, q, -⟩ := (hS.1 i hi).2.2.2; exact (Array.getElem?_eq_some_iff.mp q).1
  refine ⟨⟨Int.le_refl _, rfl⟩, fun _ _ => rfl, ⟨rfl, fun a ha => ?_, fun a ha0 ha => ?_⟩, fun a c h1 h2 h3 => ?_, fun a c h1 h2 h3 => ?_, fun a ha => ?_⟩
  · show a < 1
    rcases zkd0 (L := L) (a := a) with h | h | h | h | h <;> omega
  · show (if a = -1 then b else if a = -2 then tR else if -6 ≤ a ∧ a ≤ -3 then adK (-3 - a).toNat else if -10 ≤ a ∧ a ≤ -7 then adV (-7 - a).toNat else tq) < s.heap.size
    rcases zkd0 (L := L) (a := a) with ⟨h, -⟩ | ⟨h, -⟩ | ⟨h, h', -⟩ | ⟨h, h', -⟩ | ⟨h, h'⟩
    · rw [if_pos h]; exact hb
    · rw [if_neg (by omega), if_pos h]; exact hr
    · rw [if_neg (by omega), if_neg (by omega), if_pos ⟨h, h'⟩]; exact hk _ (by omega)
    · rw [if_neg (by omega), if_neg (by omega), if_neg (by omega), if_pos ⟨h, h'⟩]; exact hv _ (by omega)
    · exact absurd h' ha
  · rcases zkd0 (L := L) (a := a) with h | h | h | h | h <;> omega
  · rcases zkd0 (L := L) (a := a) with ⟨h, h'⟩ | ⟨h, h'⟩ | h | ⟨h, h2', h'⟩ | h
    · have : c = 101 := by omega
      subst this; subst h
      obtain ⟨scr, q1, q2, q3, q4, q5⟩ := hX
      refine ⟨by show (0 : Int) ≤ L; omega, by show (L : Int) < _; omega, scr, q1, q2, q3, by show (L : Int).toNat ≤ _; omega, by show _ = Int32.ofInt (L : Int); rw [q4, zof_nat], fun h => by omega, fun j hj => ?_⟩
      have hj : j < L := Int.ofNat_lt.mp hj
      refine ⟨(q5 j hj).trans ?_, ?_⟩
      · show some (Value.int (xs j)) = some (Value.int (Int32.ofInt (xs (j : Int).toNat).toInt))
        rw [Int.toNat_natCast, zi_to]
      · exact zi_rg _
    · have : c = 101 := by omega
      subst this; subst h
      obtain ⟨cell, q1, q2, q3, q4, q5, q6, -⟩ := hR
      refine ⟨by show (0 : Int) ≤ 12; omega, by show (12 : Int) < _; omega, cell, q1, q2, q3, q4, q5, fun h => by omega, fun j hj => ?_⟩
      have hj : j < 12 := Int.ofNat_lt.mp hj
      refine ⟨(q6 j hj).trans ?_, ?_⟩
      · show some (Value.int (Int32.ofInt (zRk.getD j 0))) = some (Value.int (Int32.ofInt (zRk.getD (j : Int).toNat 0)))
        rw [Int.toNat_natCast]
      · show zri (zRk.getD (j : Int).toNat 0)
        rw [Int.toNat_natCast]
        exact zrk_rg j hj
    · omega
    · have : c = 102 := by omega
      subst this
      obtain ⟨i, hi, rfl⟩ : ∃ i : Nat, i < 4 ∧ a = -7 - (i : Int) := ⟨(-7 - a).toNat, by omega, by omega⟩
      have ei : (-7 - (-7 - (i : Int))).toNat = i := by omega
      obtain ⟨-, -, -, cell, q1, q2, q3, q4, q5, q6, -⟩ := hS.1 i hi
      have eln : ln (zh0 L) (-7 - (i : Int)) = (Z_zsl.getD i 0 : Nat) := by
        show (if -7 - (i : Int) = -1 then (L : Int) else if -7 - (i : Int) = -2 then 12 else ((zTx (-7 - (-7 - (i : Int))).toNat).length : Int)) = _
        rw [if_neg (by omega), if_neg (by omega), ei, zst_l i hi]
      have ead : zad (zG0 s b tR tq adK adV kn) (-7 - (i : Int)) = adV i := by
        show (if 0 < -7 - (i : Int) then _ else (if -7 - (i : Int) = -1 then b else if -7 - (i : Int) = -2 then tR else if -6 ≤ -7 - (i : Int) ∧ -7 - (i : Int) ≤ -3 then adK (-3 - (-7 - (i : Int))).toNat else if -10 ≤ -7 - (i : Int) ∧ -7 - (i : Int) ≤ -7 then adV (-7 - (-7 - (i : Int))).toNat else tq)) = _
        rw [if_neg (by omega), if_neg (by omega), if_neg (by omega), if_neg (by omega), if_pos (by omega), ei]
      have hsl : ∀ i, i < 4 → Z_zsl.getD i 0 < 100 := by decide
      have em : ∀ j : Nat, zm0 xs (-7 - (i : Int)) j = (zTx i).getD j 0 := fun j => by
        show (if -7 - (i : Int) = -1 then _ else if -7 - (i : Int) = -2 then _ else (zTx (-7 - (-7 - (i : Int))).toNat).getD (j : Int).toNat 0) = _
        rw [if_neg (by omega), if_neg (by omega), ei, Int.toNat_natCast]
      unfold zArr
      rw [eln, ead]
      refine ⟨by omega, by have := hsl i hi; omega, cell, q1, q2, q3, by rw [Int.toNat_natCast]; exact q4, by rw [q5, zof_nat], fun h => by omega, fun j hj => ?_⟩
      have hj : j < Z_zsl.getD i 0 := Int.ofNat_lt.mp hj
      obtain ⟨v1, v2, v3⟩ := zst_v i hi j hj
      rw [em]
      refine ⟨(q6 j hj).trans ?_, ⟨v2, v3⟩⟩
      show some (Value.int ((Z_zsb.getD i []).getD j 0)) = some (Value.int (Int32.ofInt ((zTx i).getD j 0)))
      rw [v1]
    · omega
  · rcases zkd0 (L := L) (a := a) with h | h | h | h | h <;> omega
end ZE
set_option maxHeartbeats 4000000 in
theorem zstart (hck : ∀ k ≤ 283, Z_zck k = true) (hp : zLaw) {p : Program} {e : Env} {s : State} {m : MethodId} {below : List Frame} {meth : Method} {c : Code} (l : Launch) (_ : l.flags = flags0) {b L : Nat} {xs : Nat → Int32} (hL : L ≤ 4608) (C0 : lw_At p s m meth c b L xs) : W p l e room_1 s m #[Value.ref b] below meth c s.heap [] 0 0 (lw_Z below #[Value.ref b] s) (entryFrame m ([Value.ref b] : List Value).toArray 4) := by
  obtain ⟨hx, hb, hret, hml, hown, hts, hX, hbl, hlk, hgv⟩ := C0
  have hs := flat_of_before _ hgv
  have hA : ∀ a : Nat, a < s.heap.size → ¬ (fun q => s.heap.size ≤ q) a := fun a h1 h2 => absurd h2 (Nat.not_le.mpr h1)
  have hu : ∀ c, 1 ≤ c → c ≤ 13 → ∃ q : ClassId × (Nat → Nat), u_Kn s (zcn c) (zcT c) (zcN c) q.1 q.2 := fun c h1 h2 => by
    obtain ⟨w1, -, -⟩ := zcls h1 h2
    obtain ⟨cC, iS, h⟩ := u_known (ws := zwsG) (args := #[Value.ref b]) (fun w hw => hts w (List.mem_filter.mp hw).1) (zlays_in h1 h2) (hts _ (List.mem_filter.mp w1).1)
    exact ⟨(cC, iS), h⟩
  have hu2 : ∀ c, ∃ q : ClassId × (Nat → Nat), 1 ≤ c → c ≤ 13 → u_Kn s (zcn c) (zcT c) (zcN c) q.1 q.2 := fun c => by
    by_cases h : 1 ≤ c ∧ c ≤ 13
    · obtain ⟨q, hq⟩ := hu c h.1 h.2
      exact ⟨q, fun _ _ => hq⟩
    · obtain ⟨q, -⟩ := hu 1 (by omega) (by omega)
      exact ⟨q, fun h1 h2 => absurd ⟨h1, h2⟩ h⟩
  obtain ⟨kn, hkn⟩ := Classical.axiomOfChoice hu2
  obtain ⟨tR, hR1, hR2⟩ := va_Tof (ty := .int) (N := 12) (f := fun j => .int (Int32.ofInt (zRk.getD j 0))) (by decide) (hs _ zrk_ar) (va_eqt (hs _ zrk_len)) (fun j hj => va_eqt (hs _ (zrk_el j hj))) hA
  obtain ⟨adK, adV, hS, hE⟩ := vk_Sof (N := 4) (tm := fun i => .string "EngineShed$Reader" (zix i)) (len := Z_zsl) (byt := Z_zsb) (fun i hi => Nat.lt_trans ((by decide : ∀ i, i < 4 → Z_zsl.getD i 0 < 100) i hi) (by decide)) (fun i hi => hs _ (zst_ex i hi)) (fun i hi => hs _ (zst_co i hi)) (fun i hi => hs _ (zst_ar i hi)) (fun i hi => hs _ (zst_le i hi)) (fun i hi j hj => hs _ (zst_el i hi j hj)) (fun i j hi hj hij => (zst_ne i hi j hj hij).imp (hs _) (hs _)) hA
  obtain ⟨tq, hq⟩ : ∃ t, va_Z "jdk/internal/util/Preconditions" "SIOOBE_FORMATTER" "Ljava/util/function/BiFunction;" .null (fun q => s.heap.size ≤ q) s s.heap ∨ va_Z "jdk/internal/util/Preconditions" "SIOOBE_FORMATTER" "Ljava/util/function/BiFunction;" (.ref t) (fun q => s.heap.size ≤ q) s s.heap := by
    rcases va_Zqof (hts _ zw_l3.1) (hts _ zw_l3.2) (hs _ zw_si) hA with h | ⟨t, h⟩
    · exact ⟨0, Or.inl h⟩
    · exact ⟨t, Or.inr h⟩
  have hG : zCtx (zG0 s b tR tq adK adV kn) := by
    refine ⟨fun c h1 h2 => hkn c h1 h2, va_Zref (hts _ zw_l1.1) (hts _ zw_l1.2) hR1 hA, va_Zof (hts _ zw_l2.1) (hts _ zw_l2.2) (va_eqt (hs _ zw_cs)) hA, fun c h1 h2 hq => va_AO.of (hts _ ((zcls h1 h2).2.2 hq)), hq, fun a h1 h2 => ?_⟩
    rcases (show a = -3 ∨ a = -4 ∨ a = -5 ∨ a = -6 by omega) with h | h | h | h <;> subst h
    · exact ⟨(hS.1 0 (by omega)).1, (hS.1 0 (by omega)).2.1, (hS.1 0 (by omega)).2.2.1⟩
    · exact ⟨(hS.1 1 (by omega)).1, (hS.1 1 (by omega)).2.1, (hS.1 1 (by omega)).2.2.1⟩
    · exact ⟨(hS.1 2 (by omega)).1, (hS.1 2 (by omega)).2.1, (hS.1 2 (by omega)).2.2.1⟩
    · exact ⟨(hS.1 3 (by omega)).1, (hS.1 3 (by omega)).2.1, (hS.1 3 (by omega)).2.2.1⟩
  have hK : zK (zG0 s b tR tq adK adV kn) s := by
    refine ⟨Vm.Alike.refl _, fun w hw hn => va_Nw.of (by rcases hn with ⟨_, _, _, _, _, _, rfl⟩ | ⟨_, _, _, _, rfl⟩ <;> rfl) (hts w hw), fun o i j w ho hm => ?_⟩
    obtain ⟨rfl, e1, e2⟩ := zst_o o ho _ hm
    simp only [] at e1 e2
    subst e1
    have := vk_R.of (hts _ (zst_w j e2)) (hE j e2)
    rcases (show j = 0 ∨ j = 1 ∨ j = 2 ∨ j = 3 by omega) with h | h | h | h <;> subst h <;> exact this
  have hrel := zrel0 (tq := tq) (kn := kn) hL hX hR2 hS
  have hat : zAt (zG0 s b tR tq adK adV kn) 0 p s m #[Value.ref b] meth c := ⟨hx, hb, hml, hret, hlk, hown, fun h => absurd h (by decide), fun w hw => hts w (List.mem_filter.mp hw).1, hK⟩
  obtain ⟨hlen, d', hd, P0, hWP, hP0⟩ := hp L xs hL
  obtain ⟨r, m1, h1, y1, y2, y3, y4, y5⟩ := hWP _ (zS_clo (l := l) hG hck) (by decide +kernel)
  obtain ⟨z1, z2, z3⟩ := hP0 _ _ _ y1
  subst z1
  cases hd
  have hl := lv_entry ([Value.ref b] : List Value) (n := 4) (by show (lg_sl [Value.ref b]).length ≤ 4; exact (show 1 ≤ 4 by decide))
  rw [lg_entry_eq]
  generalize (lg_sl ([Value.ref b] : List Value) ++ List.replicate (4 - (lg_sl ([Value.ref b] : List Value)).length) Slot.unset).toArray = ls at hl ⊢
  have hA1 : zvV (zG0 s b tR tq adK adV kn) (.inr (.inr (-1))) = .ref b := rfl
  have hlr : zlR (zG0 s b tR tq adK adV kn) ls (zmaxl 0) (zpad (zmaxl 0) (zent [.inr (.inr (-1))])) := ⟨hl.1, hl.2.1, zpad_len _ _, fun i v hv => by
    obtain ⟨g1, g2⟩ := zget_ent (G := zG0 s b tR tq adK adV kn) [.inr (.inr (-1))] 0 i v (zget_pad _ _ _ _ hv)
    rw [Nat.zero_add] at g1
    refine ⟨hl.2.2 _ g1, ?_⟩
    rcases List.mem_cons.mp g2 with rfl | g2
    · trivial
    · cases g2⟩
  refine y5 p e room_1 s m #[Value.ref b] below meth c s.heap [] 0 0 _ ls hat hlr (fun v hv => by cases hv) hrel ⟨Nat.le_refl _, fun _ _ _ => rfl, fun _ h => by cases h⟩ (by decide) (by decide) (by show 0 + (nx h1 - 1).toNat ≤ 600000; omega) (by show 0 + (su h1 - 0).toNat ≤ 7302250; omega) (fun pc' ls' H' locs' hdd hrr hR' hV' => ?_)
  refine W.widen (k := 600000) (n := 7302250) (by show 0 + (nx h1 - 1).toNat ≤ 600000; omega) (by show 0 + (su h1 - 0).toNat ≤ 7302250; omega) ?_
  exact va_forget hV'.2.2 (lw_ret hx hb hret hlk hdd)

/-! THE START OF THE LAW: what the Statement gives of the classes and of the statics -/
theorem u_1_104 : (Jvm.Cond.arrayClass Jvm.ClassFile.FieldType.int) ∈ lw_tbl := lwT_1 (List.mem_of_getElem? (i := 104) (by decide +kernel))
theorem u_1_106 : (Jvm.Cond.instantiable "AdvertCouncil$RuleReader" (7 : Nat)) ∈ lw_tbl := lwT_1 (List.mem_of_getElem? (i := 106) (by decide +kernel))
theorem u_1_134 : (Jvm.Cond.instantiable "AdvertCouncil$Reading" (3 : Nat)) ∈ lw_tbl := lwT_1 (List.mem_of_getElem? (i := 134) (by decide +kernel))
theorem u_1_152 : (Jvm.Cond.stringRef "AdvertCouncil" (56 : Nat) "knsmpclazy") ∈ lw_tbl := lwT_1 (List.mem_of_getElem? (i := 152) (by decide +kernel))
theorem u_1_162 : (Jvm.Cond.laysStatic "java/lang/String" "COMPACT_STRINGS" "Z") ∈ lw_tbl := lwT_1 (List.mem_of_getElem? (i := 162) (by decide +kernel))
theorem u_1_163 : (Jvm.Cond.instantiable "AdvertCouncil$Shelf" (5 : Nat)) ∈ lw_tbl := lwT_1 (List.mem_of_getElem? (i := 163) (by decide +kernel))
theorem u_1_18 : (Jvm.Cond.initialized "jdk/internal/util/Preconditions") ∈ lw_tbl := lwT_1 (List.mem_of_getElem? (i := 18) (by decide +kernel))
theorem u_1_191 : (Jvm.Cond.arrayClass Jvm.ClassFile.FieldType.long) ∈ lw_tbl := lwT_1 (List.mem_of_getElem? (i := 191) (by decide +kernel))
theorem u_1_28 : (Jvm.Cond.instantiable "AdvertCouncil" (14 : Nat)) ∈ lw_tbl := lwT_1 (List.mem_of_getElem? (i := 28) (by decide +kernel))
theorem u_1_38 : (Jvm.Cond.instantiable "java/util/ArrayList" (3 : Nat)) ∈ lw_tbl := lwT_1 (List.mem_of_getElem? (i := 38) (by decide +kernel))
theorem u_1_4 : (Jvm.Cond.initialized "java/util/ArrayList") ∈ lw_tbl := lwT_1 (List.mem_of_getElem? (i := 4) (by decide +kernel))
theorem u_1_50 : (Jvm.Cond.laysStatic "java/util/ArrayList" "DEFAULTCAPACITY_EMPTY_ELEMENTDATA" "[Ljava/lang/Object;") ∈ lw_tbl := lwT_1 (List.mem_of_getElem? (i := 50) (by decide +kernel))
theorem u_1_64 : (Jvm.Cond.instantiable "AdvertCouncil$Proofs" (3 : Nat)) ∈ lw_tbl := lwT_1 (List.mem_of_getElem? (i := 64) (by decide +kernel))
theorem u_1_85 : (Jvm.Cond.instantiable "AdvertCouncil$Panel" (3 : Nat)) ∈ lw_tbl := lwT_1 (List.mem_of_getElem? (i := 85) (by decide +kernel))
theorem u_1_9 : (Jvm.Cond.initialized "java/lang/String") ∈ lw_tbl := lwT_1 (List.mem_of_getElem? (i := 9) (by decide +kernel))
theorem u_2_221 : (Jvm.Cond.instantiable "AdvertCouncil$Phrase" (6 : Nat)) ∈ lw_tbl := lwT_2 (List.mem_of_getElem? (i := 221) (by decide +kernel))
theorem u_2_223 : (Jvm.Cond.instantiable "AdvertCouncil$Span" (3 : Nat)) ∈ lw_tbl := lwT_2 (List.mem_of_getElem? (i := 223) (by decide +kernel))
theorem u_2_68 : (Jvm.Cond.instantiable "AdvertCouncil$Advert" (10 : Nat)) ∈ lw_tbl := lwT_2 (List.mem_of_getElem? (i := 68) (by decide +kernel))
theorem u_3_165 : (Jvm.Cond.instantiable "AdvertCouncil$Proof" (4 : Nat)) ∈ lw_tbl := lwT_3 (List.mem_of_getElem? (i := 165) (by decide +kernel))
theorem u_4_124 : (Jvm.Cond.instantiable "AdvertCouncil$Ruling" (14 : Nat)) ∈ lw_tbl := lwT_4 (List.mem_of_getElem? (i := 124) (by decide +kernel))
theorem u_4_19 : (Jvm.Cond.laysStatic "jdk/internal/util/Preconditions" "SIOOBE_FORMATTER" "Ljava/util/function/BiFunction;") ∈ lw_tbl := lwT_4 (List.mem_of_getElem? (i := 19) (by decide +kernel))
theorem u_4_2 : (Jvm.Cond.stringRef "AdvertCouncil$RuleReader" (73 : Nat) "knsmpclazy") ∈ lw_tbl := lwT_4 (List.mem_of_getElem? (i := 2) (by decide +kernel))
theorem u_4_41 : (Jvm.Cond.instantiable "AdvertCouncil$Rule" (2 : Nat)) ∈ lw_tbl := lwT_4 (List.mem_of_getElem? (i := 41) (by decide +kernel))
theorem u_5_97 : (Jvm.Cond.instantiable "AdvertCouncilModel" (90 : Nat)) ∈ lw_tbl := lwT_5 (List.mem_of_getElem? (i := 97) (by decide +kernel))
theorem u_6_133 : (Jvm.Cond.arrayClass Jvm.ClassFile.FieldType.boolean) ∈ lw_tbl := lwT_6 (List.mem_of_getElem? (i := 133) (by decide +kernel))
theorem u_7_221 : (Jvm.Cond.declares ({ cls := "java/lang/Object", name := "getClass", desc := "()Ljava/lang/Class;" } : Jvm.MethodName)) ∈ lw_tbl := lwT_7 (List.mem_of_getElem? (i := 221) (by decide +kernel))
theorem wd_arr {args : Array Value} {s : State} {ty : FieldType} (h : (Cond.arrayClass ty).before args s = true) : ∃ cA : ClassId, s.vm.findClass ("[" ++ ty.toString) = some cA ∧ ArrOfT s cA ty := by
  obtain ⟨c, k, comp, h1, h2, h3⟩ := Cond.arrayClass_spec (args := args) (first := s) (o := none) (s := s) (idx := []) h
  exact ⟨c, h1, fun N z => ⟨(fun k h => by cases h), k, h2, comp, h3⟩⟩
theorem wd_over {args : Array Value} {s : State} {C : String} (h : (Cond.arrayOver (.object C)).before args s = true) : ∃ cA : ClassId, ArrOfT s cA (.object C) ∧ va_RA s cA (.object C) := by
  obtain ⟨comp, c, k, h1, _, h2, h3, h4⟩ := Cond.arrayOver_spec (args := args) (first := s) (o := none) (s := s) (idx := []) h
  exact ⟨c, fun N z => ⟨(fun k h => by cases h), k, h2, comp, h3⟩, k, comp, h2, h3, h1, h4⟩
theorem wd_eq {args : Array Value} {s : State} {t u : Term} {a : Nat} (h : (Cond.eq t u).before args s = true) (ht : t.eval args s none [] s = some (.ref a)) : u.eval args s none [] s = some (.ref a) := by
  cases hu : u.eval args s none [] s with
  | none => simp [Cond.before, Cond.holds, Cond.value, ht, hu] at h
  | some w =>
    simp only [Cond.before, Cond.holds, Cond.value, ht, hu] at h
    cases w <;> simp_all
theorem wd_cl {args : Array Value} {s : State} (hts : ∀ w ∈ lw_tbl, w.before args s = true) : ∃ D : va_G, ∀ (k : Nat) (r : vw_C), vwCl[k]? = some r → u_Kn s r.1 r.2.1 r.2.2 (D.1 k) (D.2 k) := by
  have hG : ∀ w ∈ lwG, w.before args s = true := fun w hw => hts w (lwG_lw hw)
  have h0 : ∀ k : Nat, ∃ q : ClassId × (Nat → Nat), ∀ r : vw_C, vwCl[k]? = some r → u_Kn s r.1 r.2.1 r.2.2 q.1 q.2 := by
    intro k
    match k with
    | 0 =>
      obtain ⟨c, iS, h⟩ := u_known (C := RJx4a65c) (T := TJx4a65c) (N := 3) (n := 3) hG clw0 (hts _ u_1_38)
      exact ⟨(c, iS), fun r hr => by cases hr; exact h⟩
    | 1 =>
      obtain ⟨c, iS, h⟩ := u_known (C := RX0) (T := TX0) (N := 10) (n := 10) hG clw1 (hts _ u_2_68)
      exact ⟨(c, iS), fun r hr => by cases hr; exact h⟩
    | 2 =>
      obtain ⟨c, iS, h⟩ := u_known (C := RX1) (T := TX1) (N := 3) (n := 3) hG clw2 (hts _ u_1_85)
      exact ⟨(c, iS), fun r hr => by cases hr; exact h⟩
    | 3 =>
      obtain ⟨c, iS, h⟩ := u_known (C := RX2) (T := TX2) (N := 6) (n := 6) hG clw3 (hts _ u_2_221)
      exact ⟨(c, iS), fun r hr => by cases hr; exact h⟩
    | 4 =>
      obtain ⟨c, iS, h⟩ := u_known (C := RX3) (T := TX3) (N := 4) (n := 4) hG clw4 (hts _ u_3_165)
      exact ⟨(c, iS), fun r hr => by cases hr; exact h⟩
    | 5 =>
      obtain ⟨c, iS, h⟩ := u_known (C := RX4) (T := TX4) (N := 3) (n := 3) hG clw5 (hts _ u_1_64)
      exact ⟨(c, iS), fun r hr => by cases hr; exact h⟩
    | 6 =>
      obtain ⟨c, iS, h⟩ := u_known (C := RX5) (T := TX5) (N := 3) (n := 3) hG clw6 (hts _ u_1_134)
      exact ⟨(c, iS), fun r hr => by cases hr; exact h⟩
    | 7 =>
      obtain ⟨c, iS, h⟩ := u_known (C := RX6) (T := TX6) (N := 2) (n := 2) hG clw7 (hts _ u_4_41)
      exact ⟨(c, iS), fun r hr => by cases hr; exact h⟩
    | 8 =>
      obtain ⟨c, iS, h⟩ := u_known (C := RX7) (T := TX7) (N := 7) (n := 7) hG clw8 (hts _ u_1_106)
      exact ⟨(c, iS), fun r hr => by cases hr; exact h⟩
    | 9 =>
      obtain ⟨c, iS, h⟩ := u_known (C := RX8) (T := TX8) (N := 14) (n := 14) hG clw9 (hts _ u_4_124)
      exact ⟨(c, iS), fun r hr => by cases hr; exact h⟩
    | 10 =>
      obtain ⟨c, iS, h⟩ := u_known (C := RX9) (T := TX9) (N := 5) (n := 5) hG clw10 (hts _ u_1_163)
      exact ⟨(c, iS), fun r hr => by cases hr; exact h⟩
    | 11 =>
      obtain ⟨c, iS, h⟩ := u_known (C := RX10) (T := TX10) (N := 3) (n := 3) hG clw11 (hts _ u_2_223)
      exact ⟨(c, iS), fun r hr => by cases hr; exact h⟩
    | 12 =>
      obtain ⟨c, iS, h⟩ := u_known (C := RX11) (T := TX11) (N := 14) (n := 14) hG clw12 (hts _ u_1_28)
      exact ⟨(c, iS), fun r hr => by cases hr; exact h⟩
    | 13 =>
      obtain ⟨c, iS, h⟩ := u_known (C := RX12) (T := TX12) (N := 90) (n := 90) hG clw13 (hts _ u_5_97)
      exact ⟨(c, iS), fun r hr => by cases hr; exact h⟩
    | k + 14 => exact ⟨(0, fun _ => 0), fun r hr => by simp [vwCl] at hr⟩
  obtain ⟨f, hf⟩ := Classical.axiomOfChoice h0
  exact ⟨(fun k => (f k).1, fun k => (f k).2), fun k r hr => hf k r hr⟩
theorem wd_KK {args : Array Value} {s : State} (hts : ∀ w ∈ lw_tbl, w.before args s = true) : ∃ (D : va_G) (AC : Int → ClassId), KK D AC s := by
  obtain ⟨D, hD⟩ := wd_cl hts
  obtain ⟨cI, i1, i2⟩ := wd_arr (hts _ u_1_104)
  obtain ⟨cJ, j1, j2⟩ := wd_arr (hts _ u_1_191)
  obtain ⟨cZ, z1, z2⟩ := wd_arr (hts _ u_6_133)
  obtain ⟨cO, o1, o2⟩ := wd_over (hts _ u_2_175)
  obtain ⟨cS, s1, s2⟩ := wd_over (hts _ u_1_36)
  obtain ⟨cP, p1, p2⟩ := wd_over (hts _ u_1_140)
  refine ⟨D, fun kd => if kd = 100 then cI else if kd = 101 then cJ else if kd = 103 then cZ else if kd = 110 then cO else if kd = 111 then cS else cP, ⟨hD, fun k q hq => ?_⟩, fun w hw hk => ?_, fun C hC => va_AO.of (hts _ hC)⟩
  · match k, hq with
    | 0, hq => cases hq; exact ⟨i2, i1⟩
    | 1, hq => cases hq; exact ⟨j2, j1⟩
    | 2, hq => cases hq; exact ⟨z2, z1⟩
    | 3, hq => cases hq; exact ⟨o1, o2⟩
    | 4, hq => cases hq; exact ⟨s1, s2⟩
    | 5, hq => cases hq; exact ⟨p1, p2⟩
    | k + 6, hq => simp at hq
  · refine va_Nw.of ?_ (hts w hw)
    rcases hk with ⟨a, i, x, h, rfl⟩ | ⟨C, T, rfl⟩ | ⟨x, rfl⟩ <;> rfl
theorem wd_E {args : Array Value} {s : State} {A : Nat → Prop} (hts : ∀ w ∈ lw_tbl, w.before args s = true) (hgv : (Jvm.Cond.and given_1 narrow_1).before args s = true) (hA : ∀ a : Nat, a < s.heap.size → ¬ A a) : ∃ t : Nat, SWE t A s s.heap ∧ ∃ cell : Cell, s.heap[t]? = some cell ∧ s.isArrayOf cell (.object "java/lang/Object") ∧ s.vm.findClass "[Ljava/lang/Object;" = some cell.cls := by
  have hs := flat_of_before _ hgv
  have harr : (Cond.arrayOf (.static "java/util/ArrayList" "DEFAULTCAPACITY_EMPTY_ELEMENTDATA" "[Ljava/lang/Object;") (.object "java/lang/Object")).before args s = true := hs _ (by decide +kernel)
  have hlen : (Cond.eq (.length (.static "java/util/ArrayList" "DEFAULTCAPACITY_EMPTY_ELEMENTDATA" "[Ljava/lang/Object;")) (.int 0)).before args s = true := hs _ (by decide +kernel)
  have hmi : (Cond.isRef (.mirror "[Ljava/lang/Object;")).before args s = true := hs _ (by decide +kernel)
  have hex : (Cond.exactly (.static "java/util/ArrayList" "DEFAULTCAPACITY_EMPTY_ELEMENTDATA" "[Ljava/lang/Object;") "[Ljava/lang/Object;").before args s = true := hs _ (by decide +kernel)
  obtain ⟨t, ht, hT⟩ := va_Tof (N := 0) (f := fun _ => .null) (A := A) (by decide) harr (va_eqt hlen) (fun j hj => absurd hj (Nat.not_lt_zero j)) hA
  obtain ⟨a, c, cA, kA, q1, q2, q3, q4, q5, q6, -⟩ := Cond.exactly_spec (args := args) (first := s) (o := none) (s := s) (idx := []) hex
  obtain ⟨cell, t1, t2, t3⟩ := id hT
  refine ⟨t, ⟨va_Zof (hts _ u_1_50) (hts _ u_1_4) ht hA, hT, va_Mi.of hmi, va_Dc.of (hts _ u_7_221)⟩, cell, t1, t2, ?_⟩
  have e : a = t := by
    have := q1.symm.trans ht
    injection this with this
    injection this
  subst e
  rw [t1] at q3
  cases q3
  rw [q6]; exact q2
theorem wd_S {args : Array Value} {s : State} {A : Nat → Prop} (hts : ∀ w ∈ lw_tbl, w.before args s = true) (hgv : (Jvm.Cond.and given_1 narrow_1).before args s = true) (hA : ∀ a : Nat, a < s.heap.size → ¬ A a) : ∃ a : Nat, SWS a A s s.heap ∧ ∃ (cell : Cell) (j : Nat) (v : Nat), s.heap[a]? = some cell ∧ s.vm.findClass "java/lang/String" = some cell.cls ∧ cell.slots[j]? = some (.ref v) := by
  have hs := flat_of_before _ hgv
  have hcs : (Cond.eq (.static "java/lang/String" "COMPACT_STRINGS" "Z") (.int 1)).before args s = true := hs _ (by decide +kernel)
  have hsf : (Cond.isRef (.static "jdk/internal/util/Preconditions" "SIOOBE_FORMATTER" "Ljava/util/function/BiFunction;")).before args s = true := hs _ (by decide +kernel)
  have heq : (Cond.eq (.string "AdvertCouncil" 56) (.string "AdvertCouncil$RuleReader" 73)).before args s = true := hs _ (by decide +kernel)
  obtain ⟨adK, adV, hS, hev⟩ := vk_Sof (args := args) (s := s) (N := 1) (tm := fun _ => .string "AdvertCouncil" 56) (len := [10]) (byt := bytF) (A := A) (fun i hi => by
      obtain rfl : i = 0 := by omega
      decide)
    (fun i hi => by
      obtain rfl : i = 0 := by omega
      exact hs _ (by decide +kernel)) (fun i hi => by
      obtain rfl : i = 0 := by omega
      exact hs _ (by decide +kernel)) (fun i hi => by
      obtain rfl : i = 0 := by omega
      exact hs _ (by decide +kernel)) (fun i hi => by
      obtain rfl : i = 0 := by omega
      exact hs _ (by decide +kernel)) (fun i hi j hj => by
      obtain rfl : i = 0 := by omega
      have hj : j < 10 := hj
      have hjj : j = 0 ∨ j = 1 ∨ j = 2 ∨ j = 3 ∨ j = 4 ∨ j = 5 ∨ j = 6 ∨ j = 7 ∨ j = 8 ∨ j = 9 := by omega
      rcases hjj with rfl | rfl | rfl | rfl | rfl | rfl | rfl | rfl | rfl | rfl
      all_goals exact hs _ (by decide +kernel)) (fun i j hi hj hij => absurd (show i = j by omega) hij) hA
  have h0 := hev 0 (by omega)
  obtain ⟨⟨cell, s1, s2, s3, s4⟩, _, ⟨_, _, _, f, cell', _, _, v1, _, v2, _⟩, _⟩ := hS.1 0 (by omega)
  rw [s1] at v1
  cases v1
  refine ⟨adK 0, ⟨⟨adV, fun i hi => ?_, fun i j hi hj _ => by omega⟩, vk_R.of (hts _ u_1_152) h0, vk_R.of (hts _ u_4_2) (wd_eq heq h0), va_Zof (hts _ u_1_162) (hts _ u_1_9) (va_eqi hcs) hA, va_Zqof (hts _ u_4_19) (hts _ u_1_18) hsf hA⟩, cell, f.slot, adV 0, s1, s3, v2⟩
  obtain rfl : i = 0 := by omega
  exact hS.1 0 (by omega)

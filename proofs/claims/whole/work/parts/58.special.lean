theorem dJ0_coder_7d493_0 : decode cJ0_coder_7d493 0 = .ok (.getstatic 38, 3) := by decide +kernel
theorem dJ0_coder_7d493_3 : decode cJ0_coder_7d493 3 = .ok (.ifCond .eq 10, 3) := by decide +kernel
theorem dJ0_coder_7d493_6 : decode cJ0_coder_7d493 6 = .ok (.aload_n 0, 1) := by decide +kernel
theorem dJ0_coder_7d493_7 : decode cJ0_coder_7d493 7 = .ok (.getfield 15, 3) := by decide +kernel
theorem dJ0_coder_7d493_10 : decode cJ0_coder_7d493 10 = .ok (.goto 4, 3) := by decide +kernel
theorem dJ0_coder_7d493_14 : decode cJ0_coder_7d493 14 = .ok (.ireturn, 1) := by decide +kernel
theorem dJ0_isLatin1_aae02_0 : decode cJ0_isLatin1_aae02 0 = .ok (.getstatic 38, 3) := by decide +kernel
theorem dJ0_isLatin1_aae02_3 : decode cJ0_isLatin1_aae02 3 = .ok (.ifCond .eq 14, 3) := by decide +kernel
theorem dJ0_isLatin1_aae02_6 : decode cJ0_isLatin1_aae02 6 = .ok (.aload_n 0, 1) := by decide +kernel
theorem dJ0_isLatin1_aae02_7 : decode cJ0_isLatin1_aae02 7 = .ok (.getfield 15, 3) := by decide +kernel
theorem dJ0_isLatin1_aae02_10 : decode cJ0_isLatin1_aae02 10 = .ok (.ifCond .ne 7, 3) := by decide +kernel
theorem dJ0_isLatin1_aae02_13 : decode cJ0_isLatin1_aae02 13 = .ok (.iconst 1, 1) := by decide +kernel
theorem dJ0_isLatin1_aae02_14 : decode cJ0_isLatin1_aae02 14 = .ok (.goto 4, 3) := by decide +kernel
theorem dJ0_isLatin1_aae02_18 : decode cJ0_isLatin1_aae02 18 = .ok (.ireturn, 1) := by decide +kernel
theorem dJ3_checkIndex_8e157_0 : decode cJ3_checkIndex_8e157 0 = .ok (.iload_n 0, 1) := by decide +kernel
theorem dJ3_checkIndex_8e157_1 : decode cJ3_checkIndex_8e157 1 = .ok (.ifCond .lt 8, 3) := by decide +kernel
theorem dJ3_checkIndex_8e157_4 : decode cJ3_checkIndex_8e157 4 = .ok (.iload_n 0, 1) := by decide +kernel
theorem dJ3_checkIndex_8e157_5 : decode cJ3_checkIndex_8e157 5 = .ok (.iload_n 1, 1) := by decide +kernel
theorem dJ3_checkIndex_8e157_6 : decode cJ3_checkIndex_8e157 6 = .ok (.if_icmp .lt 10, 3) := by decide +kernel
theorem dJ3_checkIndex_8e157_16 : decode cJ3_checkIndex_8e157 16 = .ok (.iload_n 0, 1) := by decide +kernel
theorem dJ3_checkIndex_8e157_17 : decode cJ3_checkIndex_8e157 17 = .ok (.ireturn, 1) := by decide +kernel
theorem dJ0_checkIndex_df160_0 : decode cJ0_checkIndex_df160 0 = .ok (.iload_n 0, 1) := by decide +kernel
theorem dJ0_checkIndex_df160_1 : decode cJ0_checkIndex_df160 1 = .ok (.iload_n 1, 1) := by decide +kernel
theorem dJ0_checkIndex_df160_2 : decode cJ0_checkIndex_df160 2 = .ok (.getstatic 1053, 3) := by decide +kernel
theorem dJ0_checkIndex_df160_5 : decode cJ0_checkIndex_df160 5 = .ok (.invokestatic 1059, 3) := by decide +kernel
theorem dJ0_checkIndex_df160_8 : decode cJ0_checkIndex_df160 8 = .ok (.pop, 1) := by decide +kernel
theorem dJ0_checkIndex_df160_9 : decode cJ0_checkIndex_df160 9 = .ok (.return_, 1) := by decide +kernel
theorem dJ1_charAt_3b067_0 : decode cJ1_charAt_3b067 0 = .ok (.iload_n 1, 1) := by decide +kernel
theorem dJ1_charAt_3b067_1 : decode cJ1_charAt_3b067 1 = .ok (.aload_n 0, 1) := by decide +kernel
theorem dJ1_charAt_3b067_2 : decode cJ1_charAt_3b067 2 = .ok (.arraylength, 1) := by decide +kernel
theorem dJ1_charAt_3b067_3 : decode cJ1_charAt_3b067 3 = .ok (.invokestatic 9, 3) := by decide +kernel
theorem dJ1_charAt_3b067_6 : decode cJ1_charAt_3b067 6 = .ok (.aload_n 0, 1) := by decide +kernel
theorem dJ1_charAt_3b067_7 : decode cJ1_charAt_3b067 7 = .ok (.iload_n 1, 1) := by decide +kernel
theorem dJ1_charAt_3b067_8 : decode cJ1_charAt_3b067 8 = .ok (.baload, 1) := by decide +kernel
theorem dJ1_charAt_3b067_9 : decode cJ1_charAt_3b067 9 = .ok (.sipush 255, 3) := by decide +kernel
theorem dJ1_charAt_3b067_12 : decode cJ1_charAt_3b067 12 = .ok (.iand, 1) := by decide +kernel
theorem dJ1_charAt_3b067_13 : decode cJ1_charAt_3b067 13 = .ok (.i2c, 1) := by decide +kernel
theorem dJ1_charAt_3b067_14 : decode cJ1_charAt_3b067 14 = .ok (.ireturn, 1) := by decide +kernel
theorem dJ0_length_8abf5_10 : decode cJ0_length_8abf5 10 = .ok (.ireturn, 1) := by decide +kernel
theorem dJ0_length_8abf5_9 : decode cJ0_length_8abf5 9 = .ok (.ishr, 1) := by decide +kernel
theorem dJ0_length_8abf5_0 : decode cJ0_length_8abf5 0 = .ok (.aload_n 0, 1) := by decide +kernel
theorem dJ0_length_8abf5_1 : decode cJ0_length_8abf5 1 = .ok (.getfield 9, 3) := by decide +kernel
theorem dJ0_length_8abf5_4 : decode cJ0_length_8abf5 4 = .ok (.arraylength, 1) := by decide +kernel
theorem dJ0_length_8abf5_5 : decode cJ0_length_8abf5 5 = .ok (.aload_n 0, 1) := by decide +kernel
theorem dJ0_length_8abf5_6 : decode cJ0_length_8abf5 6 = .ok (.invokevirtual 335, 3) := by decide +kernel
theorem dJ0_charAt_5068e_0 : decode cJ0_charAt_5068e 0 = .ok (.aload_n 0, 1) := by decide +kernel
theorem dJ0_charAt_5068e_1 : decode cJ0_charAt_5068e 1 = .ok (.invokevirtual 492, 3) := by decide +kernel
theorem dJ0_charAt_5068e_4 : decode cJ0_charAt_5068e 4 = .ok (.ifCond .eq 12, 3) := by decide +kernel
theorem dJ0_charAt_5068e_7 : decode cJ0_charAt_5068e 7 = .ok (.aload_n 0, 1) := by decide +kernel
theorem dJ0_charAt_5068e_8 : decode cJ0_charAt_5068e 8 = .ok (.getfield 9, 3) := by decide +kernel
theorem dJ0_charAt_5068e_11 : decode cJ0_charAt_5068e 11 = .ok (.iload_n 1, 1) := by decide +kernel
theorem dJ0_charAt_5068e_12 : decode cJ0_charAt_5068e 12 = .ok (.invokestatic 495, 3) := by decide +kernel
theorem dJ0_charAt_5068e_15 : decode cJ0_charAt_5068e 15 = .ok (.ireturn, 1) := by decide +kernel
theorem w_1_154 : (Jvm.Cond.instanceMethod ({ cls := "java/lang/String", name := "length", desc := "()I" } : Jvm.MethodName)) ∈ lwG := lwG_1 (List.mem_of_getElem? (i := 154) (by decide +kernel)) rfl
theorem w_1_155 : (Jvm.Cond.selects "java/lang/String" ({ cls := "java/lang/String", name := "length", desc := "()I" } : Jvm.MethodName) ({ cls := "java/lang/String", name := "length", desc := "()I" } : Jvm.MethodName)) ∈ lwG := lwG_1 (List.mem_of_getElem? (i := 155) (by decide +kernel)) rfl
theorem w_1_156 : (Jvm.Cond.code ({ cls := "java/lang/String", name := "length", desc := "()I" } : Jvm.MethodName) prog_22_method_54_code (1 : Nat) (Option.some Jvm.ClassFile.FieldType.int)) ∈ lwG := lwG_1 (List.mem_of_getElem? (i := 156) (by decide +kernel)) rfl
theorem w_1_157 : (Jvm.Cond.methodLink "java/lang/String" (335 : Nat) ({ cls := "java/lang/String", name := "coder", desc := "()B" } : Jvm.MethodName)) ∈ lwG := lwG_1 (List.mem_of_getElem? (i := 157) (by decide +kernel)) rfl
theorem w_1_158 : (Jvm.Cond.instanceMethod ({ cls := "java/lang/String", name := "coder", desc := "()B" } : Jvm.MethodName)) ∈ lwG := lwG_1 (List.mem_of_getElem? (i := 158) (by decide +kernel)) rfl
theorem w_1_159 : (Jvm.Cond.selects "java/lang/String" ({ cls := "java/lang/String", name := "coder", desc := "()B" } : Jvm.MethodName) ({ cls := "java/lang/String", name := "coder", desc := "()B" } : Jvm.MethodName)) ∈ lwG := lwG_1 (List.mem_of_getElem? (i := 159) (by decide +kernel)) rfl
theorem w_1_16 : (Jvm.Cond.initialized "java/util/Arrays") ∈ lwG := lwG_1 (List.mem_of_getElem? (i := 16) (by decide +kernel)) rfl
theorem w_1_160 : (Jvm.Cond.code ({ cls := "java/lang/String", name := "coder", desc := "()B" } : Jvm.MethodName) prog_22_method_152_code (1 : Nat) (Option.some Jvm.ClassFile.FieldType.byte)) ∈ lwG := lwG_1 (List.mem_of_getElem? (i := 160) (by decide +kernel)) rfl
theorem w_1_161 : (Jvm.Cond.fieldLink "java/lang/String" (38 : Nat) "java/lang/String" "COMPACT_STRINGS" "Z") ∈ lwG := lwG_1 (List.mem_of_getElem? (i := 161) (by decide +kernel)) rfl
theorem w_1_22 : (Jvm.Cond.initialized "java/lang/StringLatin1") ∈ lwG := lwG_1 (List.mem_of_getElem? (i := 22) (by decide +kernel)) rfl
theorem w_1_9 : (Jvm.Cond.initialized "java/lang/String") ∈ lwG := lwG_1 (List.mem_of_getElem? (i := 9) (by decide +kernel)) rfl
theorem w_2_152 : (Jvm.Cond.code ({ cls := "java/util/Arrays", name := "copyOf", desc := "([Ljava/lang/Object;I)[Ljava/lang/Object;" } : Jvm.MethodName) prog_31_method_119_code (2 : Nat) (Option.some (Jvm.ClassFile.FieldType.array (Jvm.ClassFile.FieldType.object "java/lang/Object")))) ∈ lwG := lwG_2 (List.mem_of_getElem? (i := 152) (by decide +kernel)) rfl
theorem w_2_173 : (Jvm.Cond.code ({ cls := "java/util/Arrays", name := "copyOf", desc := "([Ljava/lang/Object;ILjava/lang/Class;)[Ljava/lang/Object;" } : Jvm.MethodName) prog_31_method_120_code (4 : Nat) (Option.some (Jvm.ClassFile.FieldType.array (Jvm.ClassFile.FieldType.object "java/lang/Object")))) ∈ lwG := lwG_2 (List.mem_of_getElem? (i := 173) (by decide +kernel)) rfl
theorem w_4_10 : (Jvm.Cond.selects "java/lang/String" ({ cls := "java/lang/String", name := "isLatin1", desc := "()Z" } : Jvm.MethodName) ({ cls := "java/lang/String", name := "isLatin1", desc := "()Z" } : Jvm.MethodName)) ∈ lwG := lwG_4 (List.mem_of_getElem? (i := 10) (by decide +kernel)) rfl
theorem w_4_11 : (Jvm.Cond.code ({ cls := "java/lang/String", name := "isLatin1", desc := "()Z" } : Jvm.MethodName) prog_22_method_154_code (1 : Nat) (Option.some Jvm.ClassFile.FieldType.boolean)) ∈ lwG := lwG_4 (List.mem_of_getElem? (i := 11) (by decide +kernel)) rfl
theorem w_4_12 : (Jvm.Cond.methodLink "java/lang/String" (495 : Nat) ({ cls := "java/lang/StringLatin1", name := "charAt", desc := "([BI)C" } : Jvm.MethodName)) ∈ lwG := lwG_4 (List.mem_of_getElem? (i := 12) (by decide +kernel)) rfl
theorem w_4_13 : (Jvm.Cond.static ({ cls := "java/lang/StringLatin1", name := "charAt", desc := "([BI)C" } : Jvm.MethodName)) ∈ lwG := lwG_4 (List.mem_of_getElem? (i := 13) (by decide +kernel)) rfl
theorem w_4_14 : (Jvm.Cond.code ({ cls := "java/lang/StringLatin1", name := "charAt", desc := "([BI)C" } : Jvm.MethodName) prog_23_method_2_code (2 : Nat) (Option.some Jvm.ClassFile.FieldType.char)) ∈ lwG := lwG_4 (List.mem_of_getElem? (i := 14) (by decide +kernel)) rfl
theorem w_4_15 : (Jvm.Cond.methodLink "java/lang/StringLatin1" (9 : Nat) ({ cls := "java/lang/String", name := "checkIndex", desc := "(II)V" } : Jvm.MethodName)) ∈ lwG := lwG_4 (List.mem_of_getElem? (i := 15) (by decide +kernel)) rfl
theorem w_4_16 : (Jvm.Cond.static ({ cls := "java/lang/String", name := "checkIndex", desc := "(II)V" } : Jvm.MethodName)) ∈ lwG := lwG_4 (List.mem_of_getElem? (i := 16) (by decide +kernel)) rfl
theorem w_4_17 : (Jvm.Cond.code ({ cls := "java/lang/String", name := "checkIndex", desc := "(II)V" } : Jvm.MethodName) prog_22_method_155_code (2 : Nat) (Option.none : Option Jvm.ClassFile.FieldType)) ∈ lwG := lwG_4 (List.mem_of_getElem? (i := 17) (by decide +kernel)) rfl
theorem w_4_18 : (Jvm.Cond.fieldLink "java/lang/String" (1053 : Nat) "jdk/internal/util/Preconditions" "SIOOBE_FORMATTER" "Ljava/util/function/BiFunction;") ∈ lwG := lwG_4 (List.mem_of_getElem? (i := 18) (by decide +kernel)) rfl
theorem w_4_20 : (Jvm.Cond.methodLink "java/lang/String" (1059 : Nat) ({ cls := "jdk/internal/util/Preconditions", name := "checkIndex", desc := "(IILjava/util/function/BiFunction;)I" } : Jvm.MethodName)) ∈ lwG := lwG_4 (List.mem_of_getElem? (i := 20) (by decide +kernel)) rfl
theorem w_4_5 : (Jvm.Cond.instanceMethod ({ cls := "java/lang/String", name := "charAt", desc := "(I)C" } : Jvm.MethodName)) ∈ lwG := lwG_4 (List.mem_of_getElem? (i := 5) (by decide +kernel)) rfl
theorem w_4_6 : (Jvm.Cond.selects "java/lang/String" ({ cls := "java/lang/String", name := "charAt", desc := "(I)C" } : Jvm.MethodName) ({ cls := "java/lang/String", name := "charAt", desc := "(I)C" } : Jvm.MethodName)) ∈ lwG := lwG_4 (List.mem_of_getElem? (i := 6) (by decide +kernel)) rfl
theorem w_4_7 : (Jvm.Cond.code ({ cls := "java/lang/String", name := "charAt", desc := "(I)C" } : Jvm.MethodName) prog_22_method_56_code (2 : Nat) (Option.some Jvm.ClassFile.FieldType.char)) ∈ lwG := lwG_4 (List.mem_of_getElem? (i := 7) (by decide +kernel)) rfl
theorem w_4_8 : (Jvm.Cond.methodLink "java/lang/String" (492 : Nat) ({ cls := "java/lang/String", name := "isLatin1", desc := "()Z" } : Jvm.MethodName)) ∈ lwG := lwG_4 (List.mem_of_getElem? (i := 8) (by decide +kernel)) rfl
theorem w_4_9 : (Jvm.Cond.instanceMethod ({ cls := "java/lang/String", name := "isLatin1", desc := "()Z" } : Jvm.MethodName)) ∈ lwG := lwG_4 (List.mem_of_getElem? (i := 9) (by decide +kernel)) rfl
theorem w_7_229 : (Jvm.Cond.fieldLink "java/lang/String" (9 : Nat) "java/lang/String" "value" "[B") ∈ lwG := lwG_7 (List.mem_of_getElem? (i := 229) (by decide +kernel)) rfl
theorem w_7_230 : (Jvm.Cond.fieldLink "java/lang/String" (15 : Nat) "java/lang/String" "coder" "B") ∈ lwG := lwG_7 (List.mem_of_getElem? (i := 230) (by decide +kernel)) rfl
theorem u_7_205 : (Jvm.Cond.castable "AdvertCouncil$Phrase" "java/lang/Object") ∈ lw_tbl := lwT_7 (List.mem_of_getElem? (i := 205) (by decide +kernel))
theorem u_7_213 : (Jvm.Cond.castable "AdvertCouncil$Advert" "java/lang/Object") ∈ lw_tbl := lwT_7 (List.mem_of_getElem? (i := 213) (by decide +kernel))
theorem u_7_215 : (Jvm.Cond.castable "AdvertCouncil$Proof" "java/lang/Object") ∈ lw_tbl := lwT_7 (List.mem_of_getElem? (i := 215) (by decide +kernel))
theorem u_7_216 : (Jvm.Cond.castable "AdvertCouncil$Rule" "java/lang/Object") ∈ lw_tbl := lwT_7 (List.mem_of_getElem? (i := 216) (by decide +kernel))
theorem u_7_217 : (Jvm.Cond.castable "AdvertCouncil$Ruling" "java/lang/Object") ∈ lw_tbl := lwT_7 (List.mem_of_getElem? (i := 217) (by decide +kernel))
/-! SPECIAL CALLS: methods of String and of Arrays, whose arguments lie outside the picture -/
def RX (M : Mth) (d : Nat) (p : Program) (R : Room) (s : State) (m : MethodId) (args : Array Value) (meth : Method) (c : Code) : Prop :=
  p.tables.exec = Jvm.exec ∧ c.code = M.2.1 ∧ meth.sig.returnType = M.2.2.2 ∧ c.maxLocals = M.2.2.1 ∧ (∀ w ∈ lwG, w.before args s = true) ∧ s.vm.findClass M.1.cls = some m.cls ∧ meth.locks = false ∧ d ≤ R.frames ∧ 64 * d ≤ R.locals
def Rq (v : Option Value) : Array Value → State → Outcome → State → Prop := fun _ st oc t => oc = .returned v ∧ t.heap = st.heap
abbrev noA : Nat → Prop := fun _ => False
def RMt (d : Nat) (M : Mth) (vs : List Value) (P : State → Prop) (v : Option Value) : Prop := ∀ l : Launch, Met l M.1 (Cond.code M.1 M.2.1 M.2.2.1 M.2.2.2 :: lwG) { frames := d, cells := 0, slots := 0, locals := 64 * d } (va_Pc vs P) (Rq v) 0 0 noA
theorem RMt.of {d : Nat} {M : Mth} {vs : List Value} {P : State → Prop} {v : Option Value} (hy : plainName M.1.cls = true) (hn : (lg_sl vs).length ≤ M.2.2.1)
    (h : ∀ (p : Program) (l : Launch) (e : Env) (R : Room) (s : State) (m : MethodId) (args : Array Value) (below : List Frame) (meth : Method) (c : Code) (ls : Array Slot), RX M d p R s m args meth c → P s → lv_has ls M.2.2.1 (lv_args 0 vs) → W p l e R s m args below meth c s.heap [] 0 0 (MQ below (Rq v) args s 0 0 noA) (F0 m 0 ls [])) : RMt d M vs P v := by
  intro l
  refine Met.ofW (cc := M.2.1) (maxL := M.2.2.1) (ret := M.2.2.2) hy rfl ?_
  intro p e s m args below meth c s₁ B hml hv
  obtain ⟨rfl, hP⟩ := hv
  have hts := atoms_spec (ws := Cond.code M.1 M.2.1 M.2.2.1 M.2.2.2 :: lwG) B.pre
  have hown : s.vm.findClass M.1.cls = some m.cls := findClass_of_methodNamed B.named
  rw [lg_entry_eq]
  exact h p l e _ s m _ below meth c _ ⟨B.exec, B.bytes, B.returns, hml, fun w hw => hts w (List.mem_cons_of_mem _ hw), hown, B.notSynchronized, Nat.le_refl _, Nat.le_refl _⟩ hP (lv_entry vs hn)
theorem run_v {p : Program} {l : Launch} {e : Env} {R : Room} {s : State} {m : MethodId} {args : Array Value} {below : List Frame} {meth : Method} {c : Code} {H : Heap} {locs : List Loc} {cells slots pc : Nat} {ls : Array Slot} {st0 rest : List Value} {Qs : State → Prop} {v : Option Value} {a : Array Value}
    (hr : va_Run p l e R s m args below meth c H locs cells slots 0 0 (F0 m pc ls st0) rest (Rq v a) noA) (kk : W p l e R s m args below meth c H locs cells slots Qs (F0 m (pc + 3) ls (v.toList ++ rest))) : W p l e R s m args below meth c H locs cells slots Qs (F0 m pc ls st0) := by
  intro T hT X
  obtain ⟨v', st₀, t, T', L, h0, X', hL, e1, e2, ⟨hv, hh⟩, st⟩ := hr T hT X
  cases hv
  obtain ⟨t2, a1, b1⟩ := kk T' (by rw [e1, hh, h0]) (Stand.forget X' (fun q h => (hL q h).elim))
  exact ⟨t2, st t2 a1, b1⟩
section RC
variable {p : Program} {l : Launch} {e : Env} {R : Room} {s : State} {m : MethodId} {args : Array Value} {below : List Frame} {meth : Method} {c : Code} {H : Heap} {locs : List Loc} {cells slots pc : Nat} {ls : Array Slot} {rest : List Value} {Qs : State → Prop}
theorem RMt.callS {d n idx : Nat} {M M' : Mth} {vs : List Value} {P : State → Prop} {v : Option Value} (hM : RMt d M' vs P v) (hX : RX M (d + 1) p R s m args meth c) (hok : MOk M' n) (hl : Cond.methodLink M.1.cls idx M'.1 ∈ lwG) (hs : Cond.static M'.1 ∈ lwG) (hb : ∀ (U : State) (g : JFrame) (mk : MethodId) (a : Array Value), P U → P (U.calling g mk a)) (hp : ∀ U : State, U.heap = H → s.WarmedH U.vm → P U) (hn : vs.length = n) (hsz : ls.size = M.2.2.1) (hw : (rest.map fun v => v.category).sum ≤ 8) (hd : decode M.2.1 pc = .ok (.invokestatic idx, 3)) (hc : cells ≤ R.cells ∧ slots ≤ R.slots)
    (kk : W p l e R s m args below meth c H locs cells slots Qs (F0 m (pc + 3) ls (v.toList ++ rest))) : W p l e R s m args below meth c H locs cells slots Qs (F0 m pc ls (vs.reverse ++ rest)) := by
  obtain ⟨x1, x2, x3, x4, hts, x6, x7, x8, x9⟩ := hX
  refine run_v (a := vs.toArray) (va_runS (As := vs) (n := n) ⟨x1, x2, x4, x6, hts⟩ (hM l) ⟨callB_of n hts (good_ws hok) rfl rfl rfl (hts _ hok.2.1) (hts _ hl) hok.2.2.2 ⟨by show d + 1 ≤ R.frames; omega, by show 8 + (M'.2.2.1 + 11) + 64 * d ≤ R.locals; have := hok.2.2.1; omega⟩, hts _ hs⟩ ⟨fun a U g mk q => ⟨q.1, hb U g mk a q.2⟩, fun U hU hW => ⟨rfl, hp U hU hW⟩⟩ rfl hn hsz rfl (lv_room hw) hd ⟨by omega, by omega⟩) kk
theorem RMt.callV {d n idx b : Nat} {C : String} {M M' : Mth} {vs : List Value} {P : State → Prop} {v : Option Value} (hM : RMt d M' (.ref b :: vs) P v) (hX : RX M (d + 1) p R s m args meth c) (hok : MOk M' n) (hl : Cond.methodLink M.1.cls idx M'.1 ∈ lwG) (hi : Cond.instanceMethod M'.1 ∈ lwG) (hse : Cond.selects C M'.1 M'.1 ∈ lwG) (ho : ∃ cell : Cell, H[b]? = some cell ∧ cell.vm.isStatics = false ∧ s.vm.findClass C = some cell.cls) (hb : ∀ (U : State) (g : JFrame) (mk : MethodId) (a : Array Value), P U → P (U.calling g mk a)) (hp : ∀ U : State, U.heap = H → s.WarmedH U.vm → P U) (hn : vs.length = n) (hsz : ls.size = M.2.2.1) (hw : (rest.map fun v => v.category).sum ≤ 8) (hd : decode M.2.1 pc = .ok (.invokevirtual idx, 3)) (hc : cells ≤ R.cells ∧ slots ≤ R.slots)
    (kk : W p l e R s m args below meth c H locs cells slots Qs (F0 m (pc + 3) ls (v.toList ++ rest))) : W p l e R s m args below meth c H locs cells slots Qs (F0 m pc ls (vs.reverse ++ .ref b :: rest)) := by
  obtain ⟨x1, x2, x3, x4, hts, x6, x7, x8, x9⟩ := hX
  refine run_v (a := (Value.ref b :: vs).toArray) (va_runV (C := C) (b := b) (As := vs) (n := n) ⟨x1, x2, x4, x6, hts⟩ (hM l) ⟨callB_of n hts (good_ws hok) rfl rfl rfl (hts _ hok.2.1) (hts _ hl) hok.2.2.2 ⟨by show d + 1 ≤ R.frames; omega, by show 8 + (M'.2.2.1 + 11) + 64 * d ≤ R.locals; have := hok.2.2.1; omega⟩, hts _ hi, hts _ hse⟩ ⟨fun a U g mk q => ⟨q.1, hb U g mk a q.2⟩, ho, fun U hU hW => ⟨rfl, hp U hU hW⟩⟩ rfl hn hsz rfl (lv_room hw) hd ⟨by omega, by omega⟩) kk
end RC
theorem SWS.same {a : Nat} {A : Nat → Prop} {s U : State} {H : Heap} (hv : s.vm = U.vm) (h : SWS a A s H) : SWS a A U H := by
  have ha : s.vm.Alike U.vm := by rw [hv]; exact Vm.Alike.refl _
  obtain ⟨h1, h2, h3, h4, h5⟩ := h
  exact ⟨h1.imp (fun _ q => vk_S.moved ha q), h2.same hv.symm, h3.same hv.symm, va_Z.moved ha h4, va_Zq.moved ha h5⟩
theorem SWS.no {a : Nat} {A : Nat → Prop} {s : State} {H : Heap} (h : SWS a A s H) : SWS a noA s H :=
  ⟨h.1.imp (fun _ q => q.narrow (fun _ z => z.elim)), h.2.1, h.2.2.1, h.2.2.2.1.narrow (fun _ z => z.elim), h.2.2.2.2.narrow (fun _ z => z.elim)⟩
def strL : List Int32 := [107, 110, 115, 109, 112, 99, 108, 97, 122, 121]
/-- what SWS says of the one String -/
theorem SWS.at {a : Nat} {A : Nat → Prop} {s : State} {H : Heap} (h : SWS a A s H) : ∃ v : Nat, va_O "java/lang/String" a A s H ∧ va_OF "java/lang/String" "coder" "B" (.int 0) a A s H ∧ va_OF "java/lang/String" "value" "[B" (.ref v) a A s H ∧ va_T .byte v 10 (fun j => .int (strL.getD j 0)) A s H := by
  obtain ⟨⟨adV, hV, -⟩, -⟩ := h
  exact ⟨adV 0, hV 0 (by decide)⟩
def mJ0_coder : Mth := (yJ0_coder_7d493, cJ0_coder_7d493, 1, some .byte)
def mJ0_length : Mth := (yJ0_length_8abf5, cJ0_length_8abf5, 1, some .int)
def mJ0_isLatin1 : Mth := (yJ0_isLatin1_aae02, cJ0_isLatin1_aae02, 1, some .boolean)
def mJ0_charAt : Mth := (yJ0_charAt_5068e, cJ0_charAt_5068e, 2, some .char)
def mJ0_checkIndex : Mth := (yJ0_checkIndex_df160, cJ0_checkIndex_df160, 2, none)
def mJ1_charAt : Mth := (yJ1_charAt_3b067, cJ1_charAt_3b067, 2, some .char)
theorem okJ0_coder : MOk mJ0_coder 0 := ⟨w_1_160, w_1_9, by decide, by decide +kernel, by decide +kernel, by decide +kernel⟩
theorem okJ0_length : MOk mJ0_length 0 := ⟨w_1_156, w_1_9, by decide, by decide +kernel, by decide +kernel, by decide +kernel⟩
theorem okJ0_isLatin1 : MOk mJ0_isLatin1 0 := ⟨w_4_11, w_1_9, by decide, by decide +kernel, by decide +kernel, by decide +kernel⟩
theorem okJ0_charAt : MOk mJ0_charAt 1 := ⟨w_4_7, w_1_9, by decide, by decide +kernel, by decide +kernel, by decide +kernel⟩
theorem okJ0_checkIndex : MOk mJ0_checkIndex 2 := ⟨w_4_17, w_1_9, by decide, by decide +kernel, by decide +kernel, by decide +kernel⟩
theorem okJ1_charAt : MOk mJ1_charAt 2 := ⟨w_4_14, w_1_22, by decide, by decide +kernel, by decide +kernel, by decide +kernel⟩
theorem r_coder {d a : Nat} : RMt d mJ0_coder [.ref a] (fun U => SWS a noA U U.heap) (some (.int 0)) := by
  refine RMt.of (by decide +kernel) (Nat.le_of_ble_eq_true rfl) ?_
  intro p l e R s m args below meth c ls hX hP hl
  obtain ⟨v, h1, h2, h3, h4⟩ := hP.at
  obtain ⟨x1, x2, x3, x4, hts, x6, x7, x8, x9⟩ := hX
  refine va_gets x1 x2 hP.2.2.2.1 va_S.rf x6 (hts _ w_1_161) (fun _ q => q) dJ0_coder_7d493_0 ?_
  refine lv_if_eq x1 x2 dJ0_coder_7d493_3 (tgt := 13) (by decide) (fun q => absurd q (by decide)) (fun _ => ?_)
  refine lv_aload_n x1 x2 dJ0_coder_7d493_6 rfl (lv_at hl 0 rfl) ?_
  refine vk_getf x1 x2 h2 va_S.rf x6 (hts _ w_7_230) (fun _ q => q) dJ0_coder_7d493_7 ?_
  refine lv_goto x1 x2 dJ0_coder_7d493_10 (tgt := 14) (by decide) ?_
  exact W.zret (v := 0) (ty := .byte) x1 x2 x3 (by decide +kernel) (fun t ht hW => ⟨rfl, ht⟩) (fun _ h => by cases h) dJ0_coder_7d493_14 x7
theorem r_isLatin1 {d a : Nat} : RMt d mJ0_isLatin1 [.ref a] (fun U => SWS a noA U U.heap) (some (.int 1)) := by
  refine RMt.of (by decide +kernel) (Nat.le_of_ble_eq_true rfl) ?_
  intro p l e R s m args below meth c ls hX hP hl
  obtain ⟨v, h1, h2, h3, h4⟩ := hP.at
  obtain ⟨x1, x2, x3, x4, hts, x6, x7, x8, x9⟩ := hX
  refine va_gets x1 x2 hP.2.2.2.1 va_S.rf x6 (hts _ w_1_161) (fun _ q => q) dJ0_isLatin1_aae02_0 ?_
  refine lv_if_eq x1 x2 dJ0_isLatin1_aae02_3 (tgt := 17) (by decide) (fun q => absurd q (by decide)) (fun _ => ?_)
  refine lv_aload_n x1 x2 dJ0_isLatin1_aae02_6 rfl (lv_at hl 0 rfl) ?_
  refine vk_getf x1 x2 h2 va_S.rf x6 (hts _ w_7_230) (fun _ q => q) dJ0_isLatin1_aae02_7 ?_
  refine lv_if_ne x1 x2 dJ0_isLatin1_aae02_10 (tgt := 17) (by decide) (fun q => absurd rfl q) (fun _ => ?_)
  refine lv_iconst (v := 1) x1 x2 dJ0_isLatin1_aae02_13 (by decide) ?_
  refine lv_goto x1 x2 dJ0_isLatin1_aae02_14 (tgt := 18) (by decide) ?_
  exact W.zret (v := 1) (ty := .boolean) x1 x2 x3 (by decide +kernel) (fun t ht hW => ⟨rfl, ht⟩) (fun _ h => by cases h) dJ0_isLatin1_aae02_18 x7
theorem r_chk {d : Nat} {i n : Int} {f : Option Nat} (hi : 0 ≤ i ∧ i < n ∧ n < 2147483648) : RMt d mJ3_checkIndex_8e157 [.int (i32 i), .int (i32 n), va_rf f] (fun _ => True) (some (.int (i32 i))) := by
  refine RMt.of (by decide +kernel) (by cases f <;> exact Nat.le_of_ble_eq_true rfl) ?_
  intro p l e R s m args below meth c ls hX hP hl
  obtain ⟨x1, x2, x3, x4, hts, x6, x7, x8, x9⟩ := id hX
  have hi0 : ¬ i32 i < 0 := fun q => by
    rw [← i32_0, i32_lt (by unfold in32; omega) in32_0] at q
    omega
  have hin : i32 i < i32 n := (i32_lt (by unfold in32; omega) (by unfold in32; omega)).mpr hi.2.1
  refine lv_iload_n x1 x2 dJ3_checkIndex_8e157_0 rfl (lv_at hl 0 rfl) ?_
  refine lv_if_lt x1 x2 dJ3_checkIndex_8e157_1 (tgt := 9) (by decide) (fun q => absurd q hi0) (fun _ => ?_)
  refine lv_iload_n x1 x2 dJ3_checkIndex_8e157_4 rfl (lv_at hl 0 rfl) ?_
  refine lv_iload_n x1 x2 dJ3_checkIndex_8e157_5 rfl (lv_at hl 1 rfl) ?_
  refine lv_icmp_lt x1 x2 dJ3_checkIndex_8e157_6 (tgt := 16) (by decide) (fun _ => ?_) (fun q => absurd hin q)
  refine lv_iload_n x1 x2 dJ3_checkIndex_8e157_16 rfl (lv_at hl 0 rfl) ?_
  exact W.iret (v := i32 i) x1 x2 x3 (fun t ht hW => ⟨rfl, ht⟩) (fun _ h => by cases h) dJ3_checkIndex_8e157_17 x7
theorem r_checkIndex {d a : Nat} {i n : Int} (hi : 0 ≤ i ∧ i < n ∧ n < 2147483648) : RMt (d + 1) mJ0_checkIndex [.int (i32 i), .int (i32 n)] (fun U => SWS a noA U U.heap) none := by
  refine RMt.of (by decide +kernel) (Nat.le_of_ble_eq_true rfl) ?_
  intro p l e R s m args below meth c ls hX hP hl
  obtain ⟨x1, x2, x3, x4, hts, x6, x7, x8, x9⟩ := id hX
  have hz : ∃ f : Option Nat, va_Z "jdk/internal/util/Preconditions" "SIOOBE_FORMATTER" "Ljava/util/function/BiFunction;" (va_rf f) noA s s.heap := by
    rcases hP.2.2.2.2 with h | ⟨t, h⟩
    · exact ⟨none, h⟩
    · exact ⟨some t, h⟩
  obtain ⟨f, hz⟩ := hz
  refine lv_iload_n x1 x2 dJ0_checkIndex_df160_0 rfl (lv_at hl 0 rfl) ?_
  refine lv_iload_n x1 x2 dJ0_checkIndex_df160_1 rfl (lv_at hl 1 rfl) ?_
  refine va_gets x1 x2 hz va_S.rf x6 (hts _ w_4_18) (fun _ q => q) dJ0_checkIndex_df160_2 ?_
  refine RMt.callS (vs := [.int (i32 i), .int (i32 n), va_rf f]) (rest := []) (d := d) (r_chk hi) hX okJ3_checkIndex_8e157 w_4_20 w_2_199 (fun U g mk aa q => trivial) (fun U hU hW => trivial) rfl hl.1 (by decide) dJ0_checkIndex_df160_5 ⟨Nat.zero_le _, Nat.zero_le _⟩ ?_
  refine lv_pop x1 x2 dJ0_checkIndex_df160_8 rfl ?_
  exact W.vret x1 x2 x3 (fun t ht hW => ⟨rfl, ht⟩) (fun _ h => by cases h) dJ0_checkIndex_df160_9 x7
def fldC (i : Int) : Int := ([107, 110, 115, 109, 112, 99, 108, 97, 122, 121] : List Int).getD i.toNat 0
theorem fldC_v {i : Int} (hi : 0 ≤ i ∧ i < 10) : ((strL.getD i.toNat 0 &&& 255).toUInt32 % 65536).toInt32 = i32 (fldC i) := by
  have h : i = 0 ∨ i = 1 ∨ i = 2 ∨ i = 3 ∨ i = 4 ∨ i = 5 ∨ i = 6 ∨ i = 7 ∨ i = 8 ∨ i = 9 := by omega
  rcases h with rfl | rfl | rfl | rfl | rfl | rfl | rfl | rfl | rfl | rfl <;> decide +kernel
theorem fldC_n {i : Int} (hi : 0 ≤ i ∧ i < 10) : narrow .char (.int (i32 (fldC i))) = .int (i32 (fldC i)) := by
  have h : i = 0 ∨ i = 1 ∨ i = 2 ∨ i = 3 ∨ i = 4 ∨ i = 5 ∨ i = 6 ∨ i = 7 ∨ i = 8 ∨ i = 9 := by omega
  rcases h with rfl | rfl | rfl | rfl | rfl | rfl | rfl | rfl | rfl | rfl <;> decide +kernel
theorem r_charAt1 {d a v : Nat} {i : Int} (hi : 0 ≤ i ∧ i < 10) : RMt (d + 2) mJ1_charAt [.ref v, .int (i32 i)] (fun U => SWS a noA U U.heap ∧ va_T .byte v 10 (fun j => .int (strL.getD j 0)) noA U U.heap) (some (.int (i32 (fldC i)))) := by
  refine RMt.of (by decide +kernel) (Nat.le_of_ble_eq_true rfl) ?_
  intro p l e R s m args below meth c ls hX hP hl
  obtain ⟨x1, x2, x3, x4, hts, x6, x7, x8, x9⟩ := id hX
  obtain ⟨hP, h4⟩ := hP
  obtain ⟨hcl, hng⟩ := cl_i32 (i := i) hi.1 (by omega)
  refine lv_iload_n x1 x2 dJ1_charAt_3b067_0 rfl (lv_at hl 1 rfl) ?_
  refine lv_aload_n x1 x2 dJ1_charAt_3b067_1 rfl (lv_at hl 0 rfl) ?_
  refine va_tlen (v := i32 10) x1 x2 h4 va_S.rf (by decide +kernel) dJ1_charAt_3b067_2 ?_
  refine RMt.callS (vs := [.int (i32 i), .int (i32 10)]) (rest := []) (d := d + 1) (r_checkIndex (a := a) ⟨hi.1, hi.2, by decide⟩) hX okJ0_checkIndex w_4_15 w_4_16 (fun U g mk aa q => SWS.same (s := U) (U := U.calling g mk aa) rfl q) (fun U hU hW => by rw [hU]; exact hP.warm hW) rfl hl.1 (by decide) dJ1_charAt_3b067_3 ⟨Nat.zero_le _, Nat.zero_le _⟩ ?_
  refine lv_aload_n x1 x2 dJ1_charAt_3b067_6 rfl (lv_at hl 0 rfl) ?_
  refine lv_iload_n x1 x2 dJ1_charAt_3b067_7 rfl (lv_at hl 1 rfl) ?_
  refine va_tb (v := .int (strL.getD i.toNat 0)) x1 x2 h4 va_S.rf (by unfold vp_in; rw [hcl]; intro q; rcases q with q | q; exact hng q; omega) (by rw [hcl]) dJ1_charAt_3b067_8 ?_
  refine lv_sipush (v := 255) x1 x2 dJ1_charAt_3b067_9 (by decide) ?_
  refine lv_iand x1 x2 dJ1_charAt_3b067_12 ?_
  refine lv_i2c x1 x2 dJ1_charAt_3b067_13 (fldC_v hi) ?_
  exact W.zret (v := i32 (fldC i)) (ty := .char) x1 x2 x3 (fldC_n hi) (fun t ht hW => ⟨rfl, ht⟩) (fun _ h => by cases h) dJ1_charAt_3b067_14 x7
/-! the three instructions on the String -/
theorem CX.rx {M : Mth} {d : Nat} {D : va_G} {AC : Int → ClassId} {ι0 : Int → Nat} {K0 : KT} {A : Nat → Prop} {mc ms : Nat} {p : Program} {R : Room} {s : State} {m : MethodId} {args : Array Value} {meth : Method} {c : Code} (h : CX M d D AC ι0 K0 A mc ms p R s m args meth c) : RX M d p R s m args meth c :=
  ⟨h.1, h.2.1, h.2.2.1, h.2.2.2.1, h.2.2.2.2.1, h.2.2.2.2.2.1, h.2.2.2.2.2.2.1, h.2.2.2.2.2.2.2.2.1, h.2.2.2.2.2.2.2.2.2.1⟩
def oLdcS (nx : Nat) : Op := fun T _ _ L st K S cb nb => (K 8).1 = 91 ∧ T nx L (vR 8 :: st) K S cb nb
/-- the String, as it stands now -/
theorem str_now {M : Mth} {d : Nat} {D : va_G} {AC : Int → ClassId} {ι0 : Int → Nat} {K0 : KT} {A : Nat → Prop} {mc ms : Nat} {p : Program} {R : Room} {s : State} {m : MethodId} {args : Array Value} {meth : Method} {c : Code} {H : Heap} {locs : List Loc} {cells slots cb nb : Nat} {ι : Int → Nat} {ls : Array Slot} {L st : List V} {K : KT} {S : ST}
    (hX1 : CX M d D AC ι0 K0 A mc ms p R s m args meth c) (hX : DX M D AC ι0 K0 A mc ms s H locs cells slots ι ls L st K S cb nb) (hk : (K 8).1 = 91) : SWS (ι 8) A s H ∧ SWS (ι 8) A s s.heap := by
  obtain ⟨g1, g2, g3, g4, g5, g6, g7, g8, g9, g10⟩ := hX
  have e0 := g3 8 (Or.inr (Or.inl hk))
  have hk0 : (K0 8).1 = 91 := by rw [e0]; exact hk
  have hZ := hX1.2.2.2.2.2.2.2.2.2.2.2.2.2.1.2.1 hk0
  rw [← (g2 8 (by rw [hk0]; decide)).2] at hZ
  exact ⟨⟨hZ.1.imp (fun _ q => q.kept g5.2.1), hZ.2.1, hZ.2.2.1, hZ.2.2.2.1.kept g5.2.1, hZ.2.2.2.2.kept g5.2.1⟩, hZ⟩
theorem s_ldcS {M : Mth} {pc idx : Nat} (hv : ∀ (a : Nat) (A : Nat → Prop) (U : State) (H : Heap), SWS a A U H → vk_R M.1.cls idx "knsmpclazy" a U) (hd : decode M.2.1 pc = .ok (.ldc idx, 2)) : Snd M pc (oLdcS (pc + 2)) := by
  intro d T Q hT L st K S cb nb h
  obtain ⟨hk, h⟩ := h
  intro p l e R s m args below meth c D AC ι0 K0 A mc ms H locs cells slots ι ls hX1 hX
  have hZ := (str_now hX1 hX hk).2
  obtain ⟨g1, g2, g3, g4, g5, g6, g7, g8, g9, g10⟩ := id hX
  have hkk := hT _ _ _ _ _ _ _ h p l e R s m args below meth c D AC ι0 K0 A mc ms H locs cells slots ι ls hX1 ⟨g1, g2, g3, g4, g5, g6, g7, g8, g9, okc (v := vR 8) (Or.inr (by rw [hk]; decide)) g10⟩
  rw [List.map_cons, conc_R, cR_n (by decide)] at hkk
  exact va_ldcS hX1.1 hX1.2.1 hX1.2.2.2.2.2.1 (hv _ _ _ _ hZ) hd hkk
theorem s_ldcSA {M : Mth} {pc : Nat} (hc : M.1.cls = "AdvertCouncil") (hd : decode M.2.1 pc = .ok (.ldc 56, 2)) : Snd M pc (oLdcS (pc + 2)) := s_ldcS (fun a A U H h => by rw [hc]; exact h.2.1) hd
theorem s_ldcSR {M : Mth} {pc : Nat} (hc : M.1.cls = "AdvertCouncil$RuleReader") (hd : decode M.2.1 pc = .ok (.ldc 73, 2)) : Snd M pc (oLdcS (pc + 2)) := s_ldcS (fun a A U H h => by rw [hc]; exact h.2.2.1) hd
/-- a method of the String -/
def oInvS8 (M : Mth) (n nx : Nat) : Op := fun T _ G L st K S cb nb => popN n [] st fun as st => popR st fun a st => a = 8 ∧ (K 8).1 = 91 ∧ nJ as = true ∧ stW st ≤ 8 ∧ G M (vR a :: as) K S cb nb (fun r K' S' cb' nb' => T nx L (r ++ st) K' S' cb' nb')
theorem s_invS8 {M M' : Mth} {pc idx n : Nat} (hM : MOk M' n) (hcl : M'.1.cls = "java/lang/String") (hl : Cond.methodLink M.1.cls idx M'.1 ∈ lwG) (hi : Cond.instanceMethod M'.1 ∈ lwG) (hse : Cond.selects "java/lang/String" M'.1 M'.1 ∈ lwG) (hd : decode M.2.1 pc = .ok (.invokevirtual idx, 3)) : Snd M pc (oInvS8 M' n (pc + 3)) := by
  intro d T Q hT L st K S cb nb h
  obtain ⟨as, r0, rfl, hlen, h⟩ := popN_o h
  obtain ⟨a, r1, rfl, rfl, hk, hJ, hw, mc1, ms1, hc1, hs1, hMt⟩ := popR_o h
  intro p l e R s m args below meth c D AC ι0 K0 A mc ms H locs cells slots ι ls hX1 hX
  obtain ⟨cell, o1, o2, o3, o4⟩ := (str_now hX1 hX hk).1.at.choose_spec.1
  obtain ⟨g1, g2, g3, g4, g5, g6, g7, g8, g9, g10⟩ := id hX
  have hts := hX1.2.2.2.2.1
  have hf := hX1.2.2.2.2.2.2.2.2.1
  have hlo := hX1.2.2.2.2.2.2.2.2.2.1
  have hRc := hX1.2.2.2.2.2.2.2.2.2.2.1
  have hRs := hX1.2.2.2.2.2.2.2.2.2.2.2.1
  obtain ⟨ha, hb⟩ := okca g10
  rw [List.append_nil] at hMt hJ
  have hMet := hMt l D AC ι H.size ha (nJ_o (as := vR 8 :: as) (by rw [nJ_R]; exact hJ))
  obtain ⟨P1, P2, P3⟩ := call_pre hX1 hX (vR 8 :: as)
  have hW := stW_o ι r1
  have ea : conc ι (vR 8) = .ref (ι 8) := by rw [conc_R, cR_n (by decide)]
  rw [List.map_cons, ea] at hMet P1 P2
  refine call_post (rest := r1) hX1 hX hb hT hc1 hs1 (va_runV (C := "java/lang/String") (b := ι 8) (As := as.map (conc ι)) (n := n) ⟨hX1.1, hX1.2.1, hX1.2.2.2.1, hX1.2.2.2.2.2.1, hts⟩ hMet ⟨callB_of n hts (good_ws hM) rfl rfl rfl (hts _ hM.2.1) (hts _ hl) hM.2.2.2 ⟨by show d + 1 ≤ R.frames; omega, by show 8 + (M'.2.2.1 + 11) + 64 * d ≤ R.locals; have := hM.2.2.1; omega⟩, hts _ hi, hts _ hse⟩ ⟨P1, ⟨cell, o1, o2, o3⟩, P2⟩ rfl (by rw [List.length_map, hlen]) g8.2.1 (by show List.map (conc ι) (as.reverse ++ vR 8 :: r1) = _; rw [List.map_append, List.map_reverse, List.map_cons, ea]) (lv_room (by omega)) hd ⟨by omega, by omega⟩)
theorem s_strLen {M : Mth} {pc idx : Nat} (hl : Cond.methodLink M.1.cls idx yJ0_length_8abf5 ∈ lwG) (hd : decode M.2.1 pc = .ok (.invokevirtual idx, 3)) : Snd M pc (oInvS8 mJ0_length 0 (pc + 3)) := s_invS8 (M' := mJ0_length) okJ0_length rfl hl w_1_154 w_1_155 hd
theorem s_charAt {M : Mth} {pc idx : Nat} (hl : Cond.methodLink M.1.cls idx yJ0_charAt_5068e ∈ lwG) (hd : decode M.2.1 pc = .ok (.invokevirtual idx, 3)) : Snd M pc (oInvS8 mJ0_charAt 1 (pc + 3)) := s_invS8 (M' := mJ0_charAt) okJ0_charAt rfl hl w_4_5 w_4_6 hd
def TTq (M : Mth) (d : Nat) (Q : QF) : TF := fun pc L st K S cb nb => TT M d pc L st K S cb nb Q
theorem m_strLen {d : Nat} {K : KT} {S : ST} {Q : QF} (hk : (K 8).1 = 91) (hq : Q [vI 10] K S) : Mt (d + 2) 0 0 mJ0_length [vR 8] K S Q := by
  refine Mt_of_TT (by decide +kernel) (by decide) ?_
  show TT mJ0_length _ 0 [vR 8] [] _ _ _ _ _
  have h10 : TT mJ0_length (d + 2) 10 [vR 8] [vI 10] K S 0 0 Q := s_ret_i rfl dJ0_length_8abf5_10 (d + 1) (TTq mJ0_length (d + 2) Q) Q (fun _ _ _ _ _ _ _ q => q) _ _ _ _ _ _ ⟨rfl, hq⟩
  have h9 : TT mJ0_length (d + 2) 9 [vR 8] [vI 0, vI 10] K S 0 0 Q := s_ishr dJ0_length_8abf5_9 (d + 1) (TTq mJ0_length (d + 2) Q) Q (fun _ _ _ _ _ _ _ q => q) _ _ _ _ _ _ (show TT mJ0_length (d + 2) 10 [vR 8] [vI (ishr 10 0)] K S 0 0 Q by rw [show ishr 10 0 = 10 by decide +kernel]; exact h10)
  intro p l e R s m args below meth c D AC ι0 K0 A mc ms H locs cells slots ι ls hX1 hX
  obtain ⟨hZH, hZ⟩ := str_now hX1 hX hk
  obtain ⟨g1, g2, g3, g4, g5, g6, g7, g8, g9, g10⟩ := id hX
  have h9' := h9 p l e R s m args below meth c D AC ι0 K0 A mc ms H locs cells slots ι ls hX1 ⟨g1, g2, g3, g4, g5, g6, g7, g8, g9, okc (v := vI 0) in32_0 (okc (v := vI 10) (by show in32 10; unfold in32; omega) (fun v hv => by cases hv))⟩
  obtain ⟨v, h1, h2, h3, h4⟩ := hZ.at
  obtain ⟨cell, o1, o2, o3, o4⟩ := hZH.at.choose_spec.1
  have hRX := hX1.rx
  have hRc := hX1.2.2.2.2.2.2.2.2.2.2.1
  have hRs := hX1.2.2.2.2.2.2.2.2.2.2.2.1
  have h0 := g8.2.2.2 0 _ rfl (vR_ne 8)
  rw [conc_R, cR_n (by decide)] at h0
  obtain ⟨x1, x2, x3, x4, hts, x6, x7, x8, x9⟩ := id hRX
  refine lv_aload_n x1 x2 dJ0_length_8abf5_0 rfl h0 ?_
  refine vk_getf x1 x2 h3 g5 x6 (hts _ w_7_229) (fun _ q => q) dJ0_length_8abf5_1 ?_
  refine va_tlen (v := i32 10) x1 x2 h4 g5 (by decide +kernel) dJ0_length_8abf5_4 ?_
  refine lv_aload_n x1 x2 dJ0_length_8abf5_5 rfl h0 ?_
  refine RMt.callV (C := "java/lang/String") (vs := []) (d := d + 1) r_coder hRX okJ0_coder w_1_157 w_1_158 w_1_159 ⟨cell, o1, o2, o3⟩ (fun U g mk aa q => SWS.same (s := U) (U := U.calling g mk aa) rfl q) (fun U hU hW => by rw [hU]; exact hZH.no.warm hW) rfl g8.2.1 (Nat.le_of_ble_eq_true rfl) dJ0_length_8abf5_6 ⟨by omega, by omega⟩ ?_
  have e0 : conc ι (vI 0) = .int 0 := by rw [conc_I, i32_0]
  rw [List.map_cons, List.map_cons, e0, conc_I] at h9'
  exact h9'
theorem m_charAt {d : Nat} {i : Int} {K : KT} {S : ST} {Q : QF} (hk : (K 8).1 = 91) (hi : 0 ≤ i ∧ i < 10) (hq : Q [vI (fldC i)] K S) : Mt (d + 4) 0 0 mJ0_charAt [vR 8, vI i] K S Q := by
  refine Mt_of_TT (by decide +kernel) (Nat.le_of_ble_eq_true rfl) ?_
  show TT mJ0_charAt _ 0 [vR 8, vI i] [] _ _ _ _ _
  intro p l e R s m args below meth c D AC ι0 K0 A mc ms H locs cells slots ι ls hX1 hX
  obtain ⟨hZH, hZ⟩ := str_now hX1 hX hk
  obtain ⟨g1, g2, g3, g4, g5, g6, g7, g8, g9, g10⟩ := id hX
  obtain ⟨v, h1, h2, h3, h4⟩ := hZ.at
  obtain ⟨cell, o1, o2, o3, o4⟩ := hZH.at.choose_spec.1
  have hRX := hX1.rx
  have hRc := hX1.2.2.2.2.2.2.2.2.2.2.1
  have hRs := hX1.2.2.2.2.2.2.2.2.2.2.2.1
  have h0 := g8.2.2.2 0 _ rfl (vR_ne 8)
  rw [conc_R, cR_n (by decide)] at h0
  have hl1 := g8.2.2.2 1 _ rfl (vI_ne i)
  rw [conc_I] at hl1
  obtain ⟨x1, x2, x3, x4, hts, x6, x7, x8, x9⟩ := id hRX
  refine lv_aload_n x1 x2 dJ0_charAt_5068e_0 rfl h0 ?_
  refine RMt.callV (C := "java/lang/String") (vs := []) (rest := []) (d := d + 3) r_isLatin1 hRX okJ0_isLatin1 w_4_8 w_4_9 w_4_10 ⟨cell, o1, o2, o3⟩ (fun U g mk aa q => SWS.same (s := U) (U := U.calling g mk aa) rfl q) (fun U hU hW => by rw [hU]; exact hZH.no.warm hW) rfl g8.2.1 (by decide) dJ0_charAt_5068e_1 ⟨by omega, by omega⟩ ?_
  refine lv_if_eq x1 x2 dJ0_charAt_5068e_4 (tgt := 16) (by decide) (fun q => absurd q (by decide)) (fun _ => ?_)
  refine lv_aload_n x1 x2 dJ0_charAt_5068e_7 rfl h0 ?_
  refine vk_getf x1 x2 h3 g5 x6 (hts _ w_7_229) (fun _ q => q) dJ0_charAt_5068e_8 ?_
  refine lv_iload_n x1 x2 dJ0_charAt_5068e_11 rfl hl1 ?_
  have h4H : va_T .byte v 10 (fun j => .int (strL.getD j 0)) A s H := h4.kept g5.2.1
  refine RMt.callS (vs := [.ref v, .int (i32 i)]) (rest := []) (d := d + 3) (r_charAt1 (d := d + 1) (a := ι 8) hi) hRX okJ1_charAt w_4_12 w_4_13 (fun U g mk aa q => ⟨SWS.same (s := U) (U := U.calling g mk aa) rfl q.1, va_T.moved (Vm.Alike.refl _) q.2⟩) (fun U hU hW => by rw [hU]; exact ⟨hZH.no.warm hW, va_T.moved hW.alike (h4H.narrow (fun _ z => z.elim))⟩) rfl g8.2.1 (by decide) dJ0_charAt_5068e_12 ⟨by omega, by omega⟩ ?_
  refine W.widen (k := mc) (n := ms) (by omega) (by omega) ?_
  exact W.zret (v := i32 (fldC i)) (ty := .char) x1 x2 x3 (fldC_n hi) (fun t ht hW => QC.of (r := [vI (fldC i)]) (Nat.le_refl 1) rfl hq g1 g2 g3 g4 (fun w hw => by
    rcases List.mem_cons.mp hw with rfl | hw
    · have h : i = 0 ∨ i = 1 ∨ i = 2 ∨ i = 3 ∨ i = 4 ∨ i = 5 ∨ i = 6 ∨ i = 7 ∨ i = 8 ∨ i = 9 := by omega
      rcases h with rfl | rfl | rfl | rfl | rfl | rfl | rfl | rfl | rfl | rfl <;> (show in32 _; unfold in32; decide)
    · cases hw) g5 ht) g5.2.2 dJ0_charAt_5068e_15 x7
/-! stores into lists' rows, copies of rows -/
theorem s_aastO {M : Mth} {pc : Nat} (hd : decode M.2.1 pc = .ok (.aastore, 1)) : Snd M pc (oAastO (pc + 1)) := by
  intro d T Q hT L st K S cb nb h
  obtain ⟨z, r0, rfl, h1⟩ := popR_o h
  obtain ⟨i, r0, rfl, h2⟩ := popI_o h1
  obtain ⟨a, r0, rfl, ha, i0, i1, hz, h3⟩ := popR_o h2
  rcases hz with hz | hz | hz | hz | hz
  · exact s_aast (kd := 110) (ck := 2) (ci := 1) (r := (RX0, TX0, 10)) (akd_d (by decide)) rfl rfl rfl (by decide) rfl (Or.inr u_7_213) hd d T Q hT L _ K S cb nb ⟨ha, i0, i1, hz, h3⟩
  · exact s_aast (kd := 110) (ck := 4) (ci := 3) (r := (RX2, TX2, 6)) (akd_d (by decide)) rfl rfl rfl (by decide) rfl (Or.inr u_7_205) hd d T Q hT L _ K S cb nb ⟨ha, i0, i1, hz, h3⟩
  · exact s_aast (kd := 110) (ck := 5) (ci := 4) (r := (RX3, TX3, 4)) (akd_d (by decide)) rfl rfl rfl (by decide) rfl (Or.inr u_7_215) hd d T Q hT L _ K S cb nb ⟨ha, i0, i1, hz, h3⟩
  · exact s_aast (kd := 110) (ck := 8) (ci := 7) (r := (RX6, TX6, 2)) (akd_d (by decide)) rfl rfl rfl (by decide) rfl (Or.inr u_7_216) hd d T Q hT L _ K S cb nb ⟨ha, i0, i1, hz, h3⟩
  · exact s_aast (kd := 110) (ck := 10) (ci := 9) (r := (RX8, TX8, 14)) (akd_d (by decide)) rfl rfl rfl (by decide) rfl (Or.inr u_7_217) hd d T Q hT L _ K S cb nb ⟨ha, i0, i1, hz, h3⟩
def oCopyK (kd : Int) (nx : Nat) : Op := fun T _ _ L st K S cb nb => popI st fun n st => popI st fun dp st => popR st fun b st => popI st fun sp st => popR st fun a st => (K a).1 = kd ∧ (K b).1 = kd ∧ 0 ≤ sp ∧ 0 ≤ dp ∧ 0 ≤ n ∧ sp + n ≤ (K a).2 ∧ dp + n ≤ (K b).2 ∧ stW st ≤ 8 ∧ (kd = 110 → ∀ j, sp ≤ j → j < sp + n → S a j = 0 ∨ listed (K (S a j)).1) ∧ T nx L st K (cpS S a sp b dp n) cb nb
/-- a listed object may lie in a list's row -/
theorem listed_ok {D : va_G} {AC : Int → ClassId} {ι : Int → Nat} {K : KT} {S : ST} {H : Heap} {s : State} {args : Array Value} {z : Int} (hR : RR D AC ι K S H) (hK : KK D AC s) (hz : listed (K z).1) : ∃ cellV : Cell, H[ι z]? = some cellV ∧ cellV.vm.isStatics = false ∧ (∃ k, s.vm.classes[cellV.cls]? = some k) ∧ ∀ comp : ClassId, s.vm.findClass "java/lang/Object" = some comp → s.vm.assignable cellV.cls comp = true := by
  have main : ∀ (ci : Nat) (r : vw_C), (K z).1 = (ci : Int) + 1 → ci ≤ 13 → vwCl[ci]? = some r → Cond.castable r.1 "java/lang/Object" ∈ lw_tbl → ∃ cellV : Cell, H[ι z]? = some cellV ∧ cellV.vm.isStatics = false ∧ (∃ k, s.vm.classes[cellV.cls]? = some k) ∧ ∀ comp : ClassId, s.vm.findClass "java/lang/Object" = some comp → s.vm.assignable cellV.cls comp = true := by
    intro ci r h1 h2 h3 h4
    obtain ⟨r', hr', ⟨cellV, q1, q2, q3, q4⟩, -⟩ := hR.obj h1 h2
    have hcls := (hK.1.1 ci r h3).2
    obtain ⟨kC, hkC, -⟩ := hcls.2
    refine ⟨cellV, q1, by rw [q3]; rfl, ⟨kC, by rw [q2]; exact hkC⟩, fun comp hc => ?_⟩
    obtain ⟨c0, t1, f1, f2, f3⟩ := Cond.castable_spec (va_Nw.use (A := args) rfl (hK.2.1 _ h4 (Or.inr (Or.inl ⟨_, _, rfl⟩))))
    cases hcls.1.symm.trans f1
    cases hc.symm.trans f2
    rw [q2]
    exact f3
  rcases hz with h | h | h | h | h
  · exact main 1 (RX0, TX0, 10) h (by decide) rfl u_7_213
  · exact main 3 (RX2, TX2, 6) h (by decide) rfl u_7_205
  · exact main 4 (RX3, TX3, 4) h (by decide) rfl u_7_215
  · exact main 7 (RX6, TX6, 2) h (by decide) rfl u_7_216
  · exact main 9 (RX8, TX8, 14) h (by decide) rfl u_7_217
theorem s_copyK {M : Mth} {pc idx : Nat} {kd : Int} (hk : akd kd) (hkd : kd = 101 ∨ kd = 110) (hl : Cond.methodLink M.1.cls idx arraycopyName ∈ lwG) (hna : Cond.native arraycopyName ∈ lwG) (hs : Cond.static arraycopyName ∈ lwG) (hi : Cond.initialized "java/lang/System" ∈ lwG) (hd : decode M.2.1 pc = .ok (.invokestatic idx, 3)) : Snd M pc (oCopyK kd (pc + 3)) := by
  intro d T Q hT L st K S cb nb h
  obtain ⟨n, r0, rfl, u1⟩ := popI_o h
  obtain ⟨dp, r0, rfl, u2⟩ := popI_o u1
  obtain ⟨b, r0, rfl, u3⟩ := popR_o u2
  obtain ⟨sp, r0, rfl, u4⟩ := popI_o u3
  obtain ⟨a, r0, rfl, ha, hb, h0, h1, h2, h3, h4, hw, hv, h⟩ := popR_o u4
  intro p l e R s m args below meth c D AC ι0 K0 A mc ms H locs cells slots ι ls hX1 hX
  obtain ⟨g1, g2, g3, g4, g5, g6, g7, g8, g9, g10⟩ := id hX
  have hts := hX1.2.2.2.2.1
  have hf := hX1.2.2.2.2.2.2.2.2.1
  have hlo := hX1.2.2.2.2.2.2.2.2.2.1
  have hKK := hX1.2.2.2.2.2.2.2.2.2.2.2.2.1
  have hb1 := akd_lo hk
  obtain ⟨na0, na1, na2, na3⟩ := g1.arr ha hb1.1
  obtain ⟨nb0, nb1, nb2, nb3⟩ := g1.arr hb hb1.1
  obtain ⟨cn, gn⟩ := cl_i32 (i := n) h2 (by omega)
  obtain ⟨cs, gs⟩ := cl_i32 (i := sp) h0 (by omega)
  obtain ⟨cd, gd⟩ := cl_i32 (i := dp) h1 (by omega)
  have tn : (i32 n).toInt = n := i32_ti (by unfold in32; omega)
  have ts : (i32 sp).toInt = sp := i32_ti (by unfold in32; omega)
  have td : (i32 dp).toInt = dp := i32_ti (by unfold in32; omega)
  have hA : A (ι b) := g4 b (by omega) (fun q => by unfold ROk at q; omega)
  have hW := stW_o ι r0
  rw [List.map_cons, List.map_cons, List.map_cons, List.map_cons, List.map_cons, conc_I, conc_I, conc_I, conc_R, conc_R, cR_n (g1.ne0 (a := a) (by omega)), cR_n (g1.ne0 (a := b) (by omega))]
  intro T' hT' X
  obtain ⟨-, ka, hka, cma, hkka⟩ := (hKK.arr hk).1 (K a).2.toNat (fun j => cvT ι (aty kd) (S a j))
  obtain ⟨-, kb, hkb, cmb, hkkb⟩ := (hKK.arr hk).1 (K b).2.toNat (fun j => cvT ι (aty kd) (S b j))
  obtain ⟨vm', X', step⟩ := X.arraycopy hX1.1 hX1.2.2.2.2.2.1 (hts _ hl) (hts _ hna) (hts _ hs) (hts _ hi) (src := ι a) (dst := ι b) (cs := arrV (AC kd) (K a).2.toNat (fun j => cvT ι (aty kd) (S a j))) (cd := arrV (AC kd) (K b).2.toNat (fun j => cvT ι (aty kd) (S b j))) (srcPos := i32 sp) (destPos := i32 dp) (n := i32 n) (by rw [hT']; exact na2) (by rw [hT']; exact nb2)
    (fun _ h => by cases h) (fun _ h => by cases h) (fun h => by cases h) (fun h => by cases h) hka hkb hkka hkkb (by rcases hkd with rfl | rfl <;> decide +kernel) gs gd gn
    (by rw [ts, tn, arrV_size]; omega) (by rw [td, tn, arrV_size]; omega)
    (fun vm₁ hal i hi => by
      rw [cn] at hi
      rw [cs]
      have e : (arrV (AC kd) (K a).2.toNat (fun j => cvT ι (aty kd) (S a j))).slots.getD (sp.toNat + i) .null = cvT ι (aty kd) (S a ((sp.toNat + i : Nat) : Int)) := by
        rw [Array.getD_eq_getD_getElem?, arrV_read _ _ (by omega)]
        rfl
      rw [e]
      rcases hkd with rfl | rfl
      · exact ⟨rfl, trivial⟩
      · rcases hv rfl ((sp.toNat + i : Nat) : Int) (by omega) (by omega) with hz | hz
        · rw [hz]
          exact ⟨rfl, trivial⟩
        · have hz0 : S a ((sp.toNat + i : Nat) : Int) ≠ 0 := fun q => by
            rw [q, g1.1] at hz
            unfold listed at hz
            omega
          show fits _ (cR ι _) = true ∧ (T'.setVm vm₁).takes cmb (cR ι _)
          rw [cR_n hz0]
          obtain ⟨cellV, q1, q2, ⟨kC, hkC⟩, q4⟩ := listed_ok (args := args) g1 hKK hz
          have hra := (hKK.arr hk).2
          obtain ⟨kA, comp, r1, r2, r3, -⟩ := hra
          cases hkb.symm.trans r1
          cases hkkb.symm.trans r2
          obtain ⟨kE, hkE, -⟩ := Vm.findClass_spec r3
          obtain ⟨kC', hkC', -⟩ := hal.2.2 _ _ hkC
          obtain ⟨kE', hkE', -⟩ := hal.2.2 _ _ hkE
          refine ⟨rfl, cellV, (show T'.heap[ι _]? = some cellV by rw [hT']; exact q1), (fun q h => by rw [h] at q2; cases q2), ⟨kC', hkC'⟩, ?_, ?_⟩
          · exact ⟨kE', hkE'⟩
          · show vm₁.assignable _ _ = true
            rw [hal.assignable]
            exact q4 _ r3)
    (g := F0 m pc ls (.int (i32 n) :: .int (i32 dp) :: .ref (ι b) :: .int (i32 sp) :: .ref (ι a) :: r0.map (conc ι))) rfl (g8.2.1.trans hX1.2.2.2.1.symm) (rest := r0.map (conc ι)) rfl (by rw [hX1.2.1]; exact hd) (by omega) (by
      have hnw : nativeFrameWords "java/lang/System" "arraycopy" 5 ≤ 20 := by decide
      show 2 * 0 + _ + _ ≤ _
      omega)
  have e1 : copied (arrV (AC kd) (K a).2.toNat (fun j => cvT ι (aty kd) (S a j))) (arrV (AC kd) (K b).2.toNat (fun j => cvT ι (aty kd) (S b j))) (i32 sp) (i32 dp) (i32 n) = arrV (AC kd) (K b).2.toNat (fun j => cvT ι (aty kd) (cpS S a sp b dp n b j)) := by
    have e2 := va_copied (fun z : Value => z) (AC kd) (AC kd) (n0 := (K a).2.toNat) (n1 := (K b).2.toNat) (sp := sp.toNat) (dp := dp.toNat) (n := n.toNat) (fun j => cvT ι (aty kd) (S a j)) (fun j => cvT ι (aty kd) (S b j)) (by omega)
    unfold copied
    rw [cn, cs, cd]
    refine e2.trans ?_
    congr 1
    funext j
    unfold va_cpy cpS
    by_cases hj : dp.toNat ≤ j ∧ j < dp.toNat + n.toNat
    · rw [if_pos hj, if_pos ⟨rfl, by omega, by omega⟩]
      show cvT ι (aty kd) (S a ((sp.toNat + (j - dp.toNat) : Nat) : Int)) = _
      rw [show ((sp.toNat + (j - dp.toNat) : Nat) : Int) = sp + ((j : Int) - dp) by omega]
    · rw [if_neg hj, if_neg (fun q => hj ⟨by omega, by omega⟩)]
  rw [e1] at X' step
  have hlb : ι b < H.size := (Array.getElem?_eq_some_iff.mp nb2).1
  have hheap : ((T'.setVm vm').setCell (ι b) (arrV (AC kd) (K b).2.toNat (fun j => cvT ι (aty kd) (cpS S a sp b dp n b j)))).heap = H.setIfInBounds (ι b) (arrV (AC kd) (K b).2.toNat (fun j => cvT ι (aty kd) (cpS S a sp b dp n b j))) := by rw [← hT']; rfl
  have oq : ∀ q : Nat, q ≠ ι b → (H.setIfInBounds (ι b) (arrV (AC kd) (K b).2.toNat (fun j => cvT ι (aty kd) (cpS S a sp b dp n b j))))[q]? = H[q]? := fun q hq => by simp [Array.getElem?_setIfInBounds, Ne.symm hq]
  have hR1 : RR D AC ι K (cpS S a sp b dp n) (H.setIfInBounds (ι b) (arrV (AC kd) (K b).2.toNat (fun j => cvT ι (aty kd) (cpS S a sp b dp n b j)))) := by
    refine g1.set (a := b) (by omega) (fun x hx => by funext j; unfold cpS; exact if_neg (fun q => hx q.1)) ?_ oq (by simp)
    unfold RC
    rw [hb]
    refine Or.inl ⟨hb1.1, nb0, nb1, by simp [Array.getElem?_setIfInBounds, hlb], fun j hj => ?_⟩
    unfold cpS
    split
    · rename_i q
      have := na3 (sp + (j - dp)).toNat (by omega)
      rwa [show (((sp + (j - dp)).toNat : Nat) : Int) = sp + (j - dp) by omega] at this
    · exact nb3 j hj
  have hkk := hT _ _ _ _ _ _ _ h p l e R s m args below meth c D AC ι0 K0 A mc ms (H.setIfInBounds (ι b) (arrV (AC kd) (K b).2.toNat (fun j => cvT ι (aty kd) (cpS S a sp b dp n b j)))) (locs ++ ((arrV (AC kd) (K a).2.toNat (fun j => cvT ι (aty kd) (S a j))).stretch (i32 sp).toNatClampNeg (i32 n).toNatClampNeg).zipIdx.map fun q => ⟨ι b, (i32 dp).toNatClampNeg + q.2⟩) cells slots ι ls hX1 ⟨hR1, g2, g3, g4, ⟨by simp; exact g5.1, fun q u1 u2 => by
      rw [oq q (fun e => u2 (by rw [e]; exact hA))]
      exact g5.2.1 q u1 u2, fun q hq => by
      rcases List.mem_append.mp hq with h | h
      · exact g5.2.2 q h
      · obtain ⟨z, -, hz⟩ := List.mem_map.mp h
        rw [← hz]
        exact hA⟩, g6, g7, g8, g9, okt (okt (okt (okt (okt g10))))⟩
  obtain ⟨t, a1, b1⟩ := hkk _ hheap X'
  exact ⟨t, step t a1, b1⟩
theorem s_copyL {M : Mth} {pc idx : Nat} (hl : Cond.methodLink M.1.cls idx arraycopyName ∈ lwG) (hna : Cond.native arraycopyName ∈ lwG) (hs : Cond.static arraycopyName ∈ lwG) (hi : Cond.initialized "java/lang/System" ∈ lwG) (hd : decode M.2.1 pc = .ok (.invokestatic idx, 3)) : Snd M pc (oCopyL (pc + 3)) := by
  intro d T Q hT L st K S cb nb h
  obtain ⟨n, r0, rfl, u1⟩ := popI_o h
  obtain ⟨dp, r0, rfl, u2⟩ := popI_o u1
  obtain ⟨b, r0, rfl, u3⟩ := popR_o u2
  obtain ⟨sp, r0, rfl, u4⟩ := popI_o u3
  obtain ⟨a, r0, rfl, ha, hb, h0, h1, h2, h3, h4, hw, h⟩ := popR_o u4
  exact s_copyK (kd := 101) (akd_d (by decide)) (Or.inl rfl) hl hna hs hi hd d T Q hT L _ K S cb nb ⟨ha, hb, h0, h1, h2, h3, h4, hw, fun q => absurd q (by decide), h⟩
/-! Arrays.copyOf of a list's row -/
def mJ7_copyOf_6403c : Mth := (yJ7_copyOf_6403c, cJ7_copyOf_6403c, 4, some (.array (.object "java/lang/Object")))
def mJ7_copyOf2 : Mth := (yJ7_copyOf_1904c, cJ7_copyOf_1904c, 2, some (.array (.object "java/lang/Object")))
theorem okJ7_copyOf_6403c : MOk mJ7_copyOf_6403c 3 := ⟨w_2_173, w_1_16, by decide, by decide +kernel, by decide +kernel, by decide +kernel⟩
theorem okJ7_copyOf2 : MOk mJ7_copyOf2 2 := ⟨w_2_152, w_1_16, by decide, by decide +kernel, by decide +kernel, by decide +kernel⟩

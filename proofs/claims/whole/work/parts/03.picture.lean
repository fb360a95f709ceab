/-! THE PICTURE OF A HEAP: K a = (kind, length) of cell a (kind 0: none; 1 .. 14: an object of class 'kind - 1' of vwCl; 90: ArrayList's shared empty row; 91: the String constant; 92: the script; 100 ..: arrays), S a j its j-th field or element; ι a its address -/
def tyCl : List (Nat → FieldType) := [tyJx4a65c, tyX0, tyX1, tyX2, tyX3, tyX4, tyX5, tyX6, tyX7, tyX8, tyX9, tyX10, tyX11, tyX12]
def fty (ci k : Nat) : Nat := tc ((tyCl.getD ci (fun _ => .int)) k)
def aty (kd : Int) : Nat := if kd = 100 then 0 else if kd = 101 then 1 else if kd = 103 then 3 else 2
def ety (kd : Int) : FieldType := if kd = 100 then .int else if kd = 101 then .long else if kd = 103 then .boolean else if kd = 110 then .object "java/lang/Object" else if kd = 111 then .object RX9 else .object RX2
def ROk (k : Int) : Prop := k = 90 ∨ k = 91 ∨ k = 92
def RC (D : va_G) (AC : Int → ClassId) (ι : Int → Nat) (K : KT) (S : ST) (H : Heap) (a : Int) : Prop :=
  (100 ≤ (K a).1 ∧ 0 ≤ (K a).2 ∧ (K a).2 < 2147483648 ∧ H[ι a]? = some (arrV (AC (K a).1) (K a).2.toNat (fun j => cvT ι (aty (K a).1) (S a j))) ∧ ∀ j : Nat, (j : Int) < (K a).2 → okT K (aty (K a).1) (S a j)) ∨
  (((K a).1 = 90 ∨ (K a).1 = 91) ∧ ι a < H.size) ∨
  ((K a).1 = 92 ∧ 0 ≤ (K a).2 ∧ (K a).2 < 2147483648 ∧ ∃ cell : Cell, H[ι a]? = some cell ∧ cell.vm ≠ .unknown ∧ cell.slots.size = (K a).2.toNat ∧ ∀ j : Nat, (j : Int) < (K a).2 → cell.slots[j]? = some (.int (i32 (S a j))) ∧ in32 (S a j)) ∨
  (1 ≤ (K a).1 ∧ (K a).1 ≤ 14 ∧ ∃ r : vw_C, vwCl[((K a).1 - 1).toNat]? = some r ∧ t_OB (ι a) (D.1 ((K a).1 - 1).toNat) r.2.2 (D.2 ((K a).1 - 1).toNat) H (fun k => cvT ι (fty ((K a).1 - 1).toNat k) (S a k)) ∧ ∀ k : Nat, k < r.2.2 → okT K (fty ((K a).1 - 1).toNat k) (S a k))
def RR (D : va_G) (AC : Int → ClassId) (ι : Int → Nat) (K : KT) (S : ST) (H : Heap) : Prop :=
  (K 0).1 = 0 ∧ (∀ a b, (K a).1 ≠ 0 → (K b).1 ≠ 0 → ι a = ι b → a = b) ∧ ∀ a, (K a).1 ≠ 0 → RC D AC ι K S H a
def up (S : ST) (a i v : Int) : ST := fun b j => if b = a ∧ j = i then v else S b j
def kup (K : KT) (x : Int) (k : Int × Int) : KT := fun b => if b = x then k else K b
def S0 (S : ST) (x : Int) : ST := fun b j => if b = x then 0 else S b j
def cpS (S : ST) (a sp b dp n : Int) : ST := fun c j => if c = b ∧ dp ≤ j ∧ j < dp + n then S a (sp + (j - dp)) else S c j
theorem up_s (S : ST) (a i v : Int) : up S a i v a i = v := if_pos ⟨rfl, rfl⟩
theorem up_na {S : ST} {a b i v : Int} (h : b ≠ a) : up S a i v b = S b := by funext j; exact if_neg (fun q => h q.1)
theorem up_ni {S : ST} {a i j v : Int} (h : j ≠ i) : up S a i v a j = S a j := if_neg (fun q => h q.2)
theorem kup_s (K : KT) (x : Int) (k : Int × Int) : kup K x k x = k := if_pos rfl
theorem kup_n {K : KT} {x b : Int} {k : Int × Int} (h : b ≠ x) : kup K x k b = K b := if_neg h
theorem S0_s (S : ST) (x : Int) : S0 S x x = fun _ => 0 := by funext j; exact if_pos rfl
theorem S0_n {S : ST} {x b : Int} (h : b ≠ x) : S0 S x b = S b := by funext j; exact if_neg h
theorem RC.lt {D : va_G} {AC : Int → ClassId} {ι : Int → Nat} {K : KT} {S : ST} {H : Heap} {a : Int} (h : RC D AC ι K S H a) : ι a < H.size := by
  rcases h with ⟨_, _, _, h, _⟩ | ⟨_, h⟩ | ⟨_, _, _, cell, h, _⟩ | ⟨_, _, r, _, ⟨cell, h, _⟩, _⟩
  · exact (Array.getElem?_eq_some_iff.mp h).1
  · exact h
  · exact (Array.getElem?_eq_some_iff.mp h).1
  · exact (Array.getElem?_eq_some_iff.mp h).1
/-- a cell that nobody touched -/
theorem RC.kept {D : va_G} {AC : Int → ClassId} {ι ι' : Int → Nat} {K K' : KT} {S S' : ST} {H H1 : Heap} {a : Int} (h : RC D AC ι K S H a) (ha : (K a).1 ≠ 0) (hk : ∀ b, (K b).1 ≠ 0 → K' b = K b) (hi : ∀ b, (K b).1 ≠ 0 → ι' b = ι b) (hS : S' a = S a) (hq : H1[ι a]? = H[ι a]?) (hz : H.size ≤ H1.size) : RC D AC ι' K' S' H1 a := by
  unfold RC at h ⊢
  rw [hk a ha, hi a ha, hS]
  rcases h with ⟨h1, h2, h3, h4, h5⟩ | ⟨h1, h2⟩ | ⟨h1, h2, h3, cell, h4, h5⟩ | ⟨h1, h2, r, h3, h4, h5⟩
  · refine Or.inl ⟨h1, h2, h3, ?_, fun j hj => okT_mono hk (h5 j hj)⟩
    rw [hq, h4]
    congr 1
    unfold arrV
    congr 1
    apply Array.ext
    · simp
    · intro i hi1 hi2
      have hi3 : i < (K a).2.toNat := by simpa using hi1
      have := h5 i (by omega)
      simp only [Array.getElem_ofFn]
      exact (cvT_agree hi this).symm
  · exact Or.inr (Or.inl ⟨h1, Nat.lt_of_lt_of_le h2 hz⟩)
  · exact Or.inr (Or.inr (Or.inl ⟨h1, h2, h3, cell, hq.trans h4, h5⟩))
  · refine Or.inr (Or.inr (Or.inr ⟨h1, h2, r, h3, (h4.kept hq).to (fun k hk' => (cvT_agree hi (h5 k hk')).symm), fun k hk' => okT_mono hk (h5 k hk')⟩))
theorem RR.set {D : va_G} {AC : Int → ClassId} {ι : Int → Nat} {K : KT} {S S' : ST} {H H1 : Heap} {a : Int} (h : RR D AC ι K S H) (ha : (K a).1 ≠ 0) (hS : ∀ b, b ≠ a → S' b = S b) (hc : RC D AC ι K S' H1 a) (oq : ∀ q : Nat, q ≠ ι a → H1[q]? = H[q]?) (hz : H1.size = H.size) : RR D AC ι K S' H1 := by
  refine ⟨h.1, h.2.1, fun b hb => ?_⟩
  by_cases e : b = a
  · subst e; exact hc
  · exact (h.2.2 b hb).kept hb (fun _ _ => rfl) (fun _ _ => rfl) (hS b e) (oq _ (fun q => e (h.2.1 b a hb ha q))) (by omega)
theorem RR.new {D : va_G} {AC : Int → ClassId} {ι : Int → Nat} {K : KT} {S S' : ST} {H H1 : Heap} {x : Int} {k : Int × Int} (h : RR D AC ι K S H) (hx : (K x).1 = 0) (hx0 : x ≠ 0) (hS : ∀ b, b ≠ x → S' b = S b) (hc : RC D AC (fun b => if b = x then H.size else ι b) (kup K x k) S' H1 x) (o1 : ∀ q : Nat, q < H.size → H1[q]? = H[q]?) (hz : H.size ≤ H1.size) : RR D AC (fun b => if b = x then H.size else ι b) (kup K x k) S' H1 := by
  have hne : ∀ b, (K b).1 ≠ 0 → b ≠ x := fun b hb e => hb (by rw [e]; exact hx)
  have hk : ∀ b, (K b).1 ≠ 0 → kup K x k b = K b := fun b hb => kup_n (hne b hb)
  have hi : ∀ b, (K b).1 ≠ 0 → (fun b => if b = x then H.size else ι b) b = ι b := fun b hb => if_neg (hne b hb)
  refine ⟨by rw [kup_n (Ne.symm hx0)]; exact h.1, fun a b ha hb hab => ?_, fun b hb => ?_⟩
  · by_cases ea : a = x <;> by_cases eb : b = x
    · rw [ea, eb]
    · have hb' : (K b).1 ≠ 0 := by rwa [kup_n eb] at hb
      simp only [ea, eb, if_true, if_false] at hab
      have := (h.2.2 b hb').lt
      omega
    · have ha' : (K a).1 ≠ 0 := by rwa [kup_n ea] at ha
      simp only [ea, eb, if_true, if_false] at hab
      have := (h.2.2 a ha').lt
      omega
    · have ha' : (K a).1 ≠ 0 := by rwa [kup_n ea] at ha
      have hb' : (K b).1 ≠ 0 := by rwa [kup_n eb] at hb
      simp only [ea, eb, if_false] at hab
      exact h.2.1 a b ha' hb' hab
  · by_cases e : b = x
    · subst e; exact hc
    · have hb' : (K b).1 ≠ 0 := by rwa [kup_n e] at hb
      exact (h.2.2 b hb').kept hb' hk hi (hS b e) (o1 _ (h.2.2 b hb').lt) hz
/-- what stands outside the picture: words on nest mates, casts, arrays over a class -/
def nwok (w : Cond) : Prop := (∃ a i x h, w = .methodLinkNest a i x h) ∨ (∃ C T, w = .castable C T) ∨ ∃ x, w = .declares x
def NW (U : State) : Prop := (∀ w ∈ lw_tbl, nwok w → va_Nw w U) ∧ ∀ C, Cond.arrayOver (.object C) ∈ lw_tbl → va_AO C U
theorem NW.warm {s U : State} (hW : s.WarmedH U.vm) (h : NW s) : NW U := by
  refine ⟨fun w hw hk => ?_, fun C hC => (h.2 C hC).moved hW.alike⟩
  have h1 := h.1 w hw hk
  rcases hk with ⟨a, i, x, h, rfl⟩ | ⟨C, T, rfl⟩ | ⟨x, rfl⟩
  · exact va_Nw.warmM hW h1
  · exact va_Nw.warmC hW h1
  · exact va_Nw.warmD hW h1
theorem NW.same {u U : State} (hv : u.vm = U.vm) (h : NW u) : NW U := by
  refine ⟨fun w hw hk => ?_, fun C hC => (h.2 C hC).moved (by rw [hv]; exact Vm.Alike.refl _)⟩
  have h1 := h.1 w hw hk
  rcases hk with ⟨a, i, x, h, rfl⟩ | ⟨C, T, rfl⟩ | ⟨x, rfl⟩
  · exact va_Nw.same rfl hv h1
  · exact va_Nw.same rfl hv h1
  · exact va_Nw.same rfl hv h1
/-- statics: ArrayList's shared empty row, the String constant -/
def bytF : List (List Int32) := [[107, 110, 115, 109, 112, 99, 108, 97, 122, 121]]
def SWE (a : Nat) (A : Nat → Prop) (U : State) (H : Heap) : Prop := va_Z "java/util/ArrayList" "DEFAULTCAPACITY_EMPTY_ELEMENTDATA" "[Ljava/lang/Object;" (.ref a) A U H ∧ va_T (.object "java/lang/Object") a 0 (fun _ => .null) A U H ∧ (∃ mi, va_Mi "[Ljava/lang/Object;" mi U) ∧ va_Dc U
def SWS (a : Nat) (A : Nat → Prop) (U : State) (H : Heap) : Prop := (∃ adV, vk_S 1 [10] bytF (fun _ => a) adV A U H) ∧ vk_R "AdvertCouncil" 56 "knsmpclazy" a U ∧ vk_R "AdvertCouncil$RuleReader" 73 "knsmpclazy" a U ∧ va_Z "java/lang/String" "COMPACT_STRINGS" "Z" (.int 1) A U H ∧ va_Zq "jdk/internal/util/Preconditions" "SIOOBE_FORMATTER" "Ljava/util/function/BiFunction;" A U H
def SWX (a : Nat) (A : Nat → Prop) (U : State) (H : Heap) : Prop := ∃ cell : Cell, H[a]? = some cell ∧ U.isArrayOf cell .int ∧ ¬ A a
def SW (ι : Int → Nat) (K : KT) (A : Nat → Prop) (U : State) (H : Heap) : Prop := ((K 7).1 = 90 → SWE (ι 7) A U H) ∧ ((K 8).1 = 91 → SWS (ι 8) A U H) ∧ ((K 9).1 = 92 → SWX (ι 9) A U H)
theorem SWE.warm {a : Nat} {A : Nat → Prop} {s U : State} {H : Heap} (hW : s.WarmedH U.vm) (h : SWE a A s H) : SWE a A U H :=
  ⟨va_Z.moved hW.alike h.1, va_T.moved hW.alike h.2.1, h.2.2.1.imp (fun _ q => q.moved hW.alike), h.2.2.2.moved hW.alike⟩
theorem SWS.warm {a : Nat} {A : Nat → Prop} {s U : State} {H : Heap} (hW : s.WarmedH U.vm) (h : SWS a A s H) : SWS a A U H :=
  ⟨h.1.imp (fun _ q => vk_S.moved hW.alike q), h.2.1.warm hW, h.2.2.1.warm hW, va_Z.moved hW.alike h.2.2.2.1, va_Zq.moved hW.alike h.2.2.2.2⟩
theorem SWX.moved {a : Nat} {A : Nat → Prop} {u U : State} {H : Heap} (hvm : u.vm.Alike U.vm) (h : SWX a A u H) : SWX a A U H := by
  obtain ⟨cell, h1, h2, h3⟩ := h
  exact ⟨cell, h1, State.isArrayOf_alike hvm h2, h3⟩
theorem SW.warm {ι : Int → Nat} {K : KT} {A : Nat → Prop} {s U : State} {H : Heap} (hW : s.WarmedH U.vm) (h : SW ι K A s H) : SW ι K A U H := ⟨fun k => (h.1 k).warm hW, fun k => (h.2.1 k).warm hW, fun k => (h.2.2 k).moved hW.alike⟩
theorem SW.same {ι : Int → Nat} {K : KT} {A : Nat → Prop} {s U : State} {H : Heap} (hv : s.vm = U.vm) (h : SW ι K A s H) : SW ι K A U H := by
  have ha : s.vm.Alike U.vm := by rw [hv]; exact Vm.Alike.refl _
  refine ⟨fun k => ?_, fun k => ?_, fun k => (h.2.2 k).moved ha⟩
  · obtain ⟨h1, h2, h3, h4⟩ := h.1 k
    exact ⟨va_Z.moved ha h1, va_T.moved ha h2, h3.imp (fun _ q => q.moved ha), h4.moved ha⟩
  · obtain ⟨h1, h2, h3, h4, h5⟩ := h.2.1 k
    exact ⟨h1.imp (fun _ q => vk_S.moved ha q), h2.same hv.symm, h3.same hv.symm, va_Z.moved ha h4, va_Zq.moved ha h5⟩
theorem SW.kept {ι : Int → Nat} {K : KT} {A : Nat → Prop} {U : State} {H H1 : Heap} (h : SW ι K A U H) (hq : ∀ a : Nat, a < H.size → ¬ A a → H1[a]? = H[a]?) : SW ι K A U H1 :=
  ⟨fun k => ⟨(h.1 k).1.kept hq, (h.1 k).2.1.kept hq, (h.1 k).2.2⟩, fun k => ⟨(h.2.1 k).1.imp (fun _ q => q.kept hq), (h.2.1 k).2.1, (h.2.1 k).2.2.1, (h.2.1 k).2.2.2.1.kept hq, (h.2.1 k).2.2.2.2.kept hq⟩, fun k => by
    obtain ⟨cell, h1, h2, h3⟩ := h.2.2 k
    exact ⟨cell, (hq _ (Array.getElem?_eq_some_iff.mp h1).1 h3).trans h1, h2, h3⟩⟩
theorem SW.narrow {ι : Int → Nat} {K : KT} {A B : Nat → Prop} {U : State} {H : Heap} (h : SW ι K A U H) (hAB : ∀ q, B q → A q) : SW ι K B U H :=
  ⟨fun k => ⟨(h.1 k).1.narrow hAB, (h.1 k).2.1.narrow hAB, (h.1 k).2.2⟩, fun k => ⟨(h.2.1 k).1.imp (fun _ q => q.narrow hAB), (h.2.1 k).2.1, (h.2.1 k).2.2.1, (h.2.1 k).2.2.2.1.narrow hAB, (h.2.1 k).2.2.2.2.narrow hAB⟩, fun k => by
    obtain ⟨cell, h1, h2, h3⟩ := h.2.2 k
    exact ⟨cell, h1, h2, fun q => h3 (hAB _ q)⟩⟩
theorem SW.re {ι ι' : Int → Nat} {K K' : KT} {A : Nat → Prop} {U : State} {H : Heap} (h : SW ι K A U H) (hi : ∀ a, (K a).1 ≠ 0 → K' a = K a ∧ ι' a = ι a) (hr : ∀ a, ROk (K' a).1 → K a = K' a) : SW ι' K' A U H := by
  refine ⟨fun k => ?_, fun k => ?_, fun k => ?_⟩
  · have e := hr 7 (Or.inl k)
    have k' : (K 7).1 = 90 := by rw [e]; exact k
    rw [(hi 7 (by rw [k']; decide)).2]
    exact h.1 k'
  · have e := hr 8 (Or.inr (Or.inl k))
    have k' : (K 8).1 = 91 := by rw [e]; exact k
    rw [(hi 8 (by rw [k']; decide)).2]
    exact h.2.1 k'
  · have e := hr 9 (Or.inr (Or.inr k))
    have k' : (K 9).1 = 92 := by rw [e]; exact k
    rw [(hi 9 (by rw [k']; decide)).2]
    exact h.2.2 k'
abbrev tysA (AC : Int → ClassId) : List (ClassId × FieldType) := [(AC 100, .int), (AC 101, .long), (AC 103, .boolean), (AC 110, .object "java/lang/Object"), (AC 111, .object RX9), (AC 112, .object RX2)]
def KK (D : va_G) (AC : Int → ClassId) (U : State) : Prop := va_K D vwCl (tysA AC) U ∧ NW U
theorem KK.warm {D : va_G} {AC : Int → ClassId} {s U : State} (hW : s.WarmedH U.vm) (h : KK D AC s) : KK D AC U := ⟨va_K.moved hW.alike h.1, h.2.warm hW⟩
theorem KK.same {D : va_G} {AC : Int → ClassId} {s U : State} (hv : s.vm = U.vm) (h : KK D AC s) : KK D AC U := ⟨va_K.moved (by rw [hv]; exact Vm.Alike.refl _) h.1, h.2.same hv⟩
/-- what a method may change: the cells of its picture, and what it makes -/
def AA (ι : Int → Nat) (K : KT) (sz : Nat) : Nat → Prop := fun q => (∃ a, (K a).1 ≠ 0 ∧ ¬ ROk (K a).1 ∧ ι a = q) ∨ sz ≤ q
def QC (D : va_G) (AC : Int → ClassId) (ι0 : Int → Nat) (K0 : KT) (A : Nat → Prop) (Q : List V → KT → ST → Prop) : Array Value → State → Outcome → State → Prop := fun _ st oc t =>
  (∃ (r : List V) (K : KT) (S : ST) (ι : Int → Nat), oc = .returned (r.head?.map (conc ι)) ∧ r.length ≤ 1 ∧ Q r K S ∧ RR D AC ι K S t.heap ∧ (∀ a, (K0 a).1 ≠ 0 → K a = K0 a ∧ ι a = ι0 a) ∧ (∀ a, ROk (K a).1 → K0 a = K a) ∧ (∀ v ∈ r, okV K v) ∧ ∀ a, (K a).1 ≠ 0 → ¬ ROk (K a).1 → A (ι a)) ∧ va_F A st t
/-- A METHOD'S CONTRACT over pictures: from K, S with these arguments, making mc cells of ms slots at most, d calls deep at most, it returns and Q holds of its answer and of the picture behind it -/
def Mt (d mc ms : Nat) (M : Mth) (as : List V) (K : KT) (S : ST) (Q : List V → KT → ST → Prop) : Prop :=
  ∀ (l : Launch) (D : va_G) (AC : Int → ClassId) (ι : Int → Nat) (sz : Nat), (∀ v ∈ as, okV K v) → (∀ v ∈ as, v ≠ vJ) →
    Met l M.1 (Cond.code M.1 M.2.1 M.2.2.1 M.2.2.2 :: lwG) { frames := d, cells := mc, slots := ms, locals := 64 * d }
      (va_Pc (as.map (conc ι)) (fun U => U.heap.size = sz ∧ RR D AC ι K S U.heap ∧ KK D AC U ∧ SW ι K (AA ι K sz) U U.heap)) (QC D AC ι K (AA ι K sz) Q) mc ms (AA ι K sz)
def CX (M : Mth) (d : Nat) (D : va_G) (AC : Int → ClassId) (ι0 : Int → Nat) (K0 : KT) (A : Nat → Prop) (mc ms : Nat) (p : Program) (R : Room) (s : State) (m : MethodId) (args : Array Value) (meth : Method) (c : Code) : Prop :=
  p.tables.exec = Jvm.exec ∧ c.code = M.2.1 ∧ meth.sig.returnType = M.2.2.2 ∧ c.maxLocals = M.2.2.1 ∧ (∀ w ∈ lwG, w.before args s = true) ∧ s.vm.findClass M.1.cls = some m.cls ∧ meth.locks = false ∧ meth.name = M.1.name ∧ d ≤ R.frames ∧ 64 * d ≤ R.locals ∧ R.cells = mc ∧ R.slots = ms ∧ KK D AC s ∧ SW ι0 K0 A s s.heap ∧ ∀ q, s.heap.size ≤ q → A q
def DX (M : Mth) (D : va_G) (AC : Int → ClassId) (ι0 : Int → Nat) (K0 : KT) (A : Nat → Prop) (mc ms : Nat) (s : State) (H : Heap) (locs : List Loc) (cells slots : Nat) (ι : Int → Nat) (ls : Array Slot) (L st : List V) (K : KT) (S : ST) (cb nb : Nat) : Prop :=
  RR D AC ι K S H ∧ (∀ a, (K0 a).1 ≠ 0 → K a = K0 a ∧ ι a = ι0 a) ∧ (∀ a, ROk (K a).1 → K0 a = K a) ∧ (∀ a, (K a).1 ≠ 0 → ¬ ROk (K a).1 → A (ι a)) ∧ va_S A s.heap H locs ∧ cells + cb ≤ mc ∧ slots + nb ≤ ms ∧ LR ι M.2.2.1 L ls ∧ (∀ v ∈ L, okV K v) ∧ ∀ v ∈ st, okV K v
/-- from here (pc, locals L, stack st, picture K, S, room for cb cells of nb slots) method M comes to its end, and Q holds there -/
def TT (M : Mth) (d pc : Nat) (L st : List V) (K : KT) (S : ST) (cb nb : Nat) (Q : List V → KT → ST → Prop) : Prop :=
  ∀ (p : Program) (l : Launch) (e : Env) (R : Room) (s : State) (m : MethodId) (args : Array Value) (below : List Frame) (meth : Method) (c : Code) (D : va_G) (AC : Int → ClassId) (ι0 : Int → Nat) (K0 : KT) (A : Nat → Prop) (mc ms : Nat) (H : Heap) (locs : List Loc) (cells slots : Nat) (ι : Int → Nat) (ls : Array Slot),
    CX M d D AC ι0 K0 A mc ms p R s m args meth c → DX M D AC ι0 K0 A mc ms s H locs cells slots ι ls L st K S cb nb →
    W p l e R s m args below meth c H locs cells slots (MQ below (QC D AC ι0 K0 A Q) args s mc ms A) (F0 m pc ls (st.map (conc ι)))
theorem Mt_of_TT {d mc ms : Nat} {M : Mth} {as : List V} {K : KT} {S : ST} {Q : List V → KT → ST → Prop} (hy : plainName M.1.cls = true) (hn : (expV as).length ≤ M.2.2.1) (h : TT M d 0 (entL M.2.2.1 as) [] K S mc ms Q) : Mt d mc ms M as K S Q := by
  intro l D AC ι sz hok hJ
  refine Met.ofW (cc := M.2.1) (maxL := M.2.2.1) (ret := M.2.2.2) hy rfl ?_
  intro p e s m args below meth c s₁ B hml hv
  obtain ⟨rfl, hsz, hR, hK, hW⟩ := hv
  have hts := atoms_spec (ws := Cond.code M.1 M.2.1 M.2.2.1 M.2.2.2 :: lwG) B.pre
  have hown : s.vm.findClass M.1.cls = some m.cls := findClass_of_methodNamed B.named
  subst hsz
  have hl := LR_entry ι hJ hn
  rw [lg_entry_eq]
  exact h p l e _ s m _ below meth c D AC ι K (AA ι K s.heap.size) mc ms s.heap [] 0 0 ι _ ⟨B.exec, B.bytes, B.returns, hml, fun w hw => hts w (List.mem_cons_of_mem _ hw), hown, B.notSynchronized, (name_of_methodNamed B.named B.method).1, Nat.le_refl _, Nat.le_refl _, rfl, rfl, hK, hW, fun q hq => Or.inr hq⟩
    ⟨hR, fun a _ => ⟨rfl, rfl⟩, fun a _ => rfl, fun a h1 h2 => Or.inl ⟨a, h1, h2, rfl⟩, va_S.rf, by omega, by omega, hl, ok_entL hok, fun v hv => by cases hv⟩
/-- a step that touches neither heap nor room -/
theorem TT.pure {M : Mth} {d pc pc' : Nat} {L L' st st' : List V} {K : KT} {S : ST} {cb nb : Nat} {Q : List V → KT → ST → Prop}
    (hw : ∀ {p : Program} {l : Launch} {e : Env} {R : Room} {s : State} {m : MethodId} {args : Array Value} {below : List Frame} {meth : Method} {c : Code} {H : Heap} {locs : List Loc} {cells slots : Nat} {Qs : State → Prop} {ι : Int → Nat} {ls : Array Slot}, p.tables.exec = Jvm.exec → c.code = M.2.1 → s.vm.findClass M.1.cls = some m.cls → (∀ w ∈ lwG, w.before args s = true) → (K 0).1 = 0 → LR ι M.2.2.1 L ls → (∀ v ∈ L, okV K v) → (∀ v ∈ st, okV K v) →
      (∀ ls' : Array Slot, LR ι M.2.2.1 L' ls' → (∀ v ∈ L', okV K v) → (∀ v ∈ st', okV K v) → W p l e R s m args below meth c H locs cells slots Qs (F0 m pc' ls' (st'.map (conc ι)))) →
      W p l e R s m args below meth c H locs cells slots Qs (F0 m pc ls (st.map (conc ι))))
    (k : TT M d pc' L' st' K S cb nb Q) : TT M d pc L st K S cb nb Q := by
  intro p l e R s m args below meth c D AC ι0 K0 A mc ms H locs cells slots ι ls hC hX
  obtain ⟨h1, h2, h3, h4, h5, h6, h7, h8, h9, h10⟩ := id hX
  exact hw hC.1 hC.2.1 hC.2.2.2.2.2.1 hC.2.2.2.2.1 h1.1 h8 h9 h10 (fun ls' g1 g2 g3 => k p l e R s m args below meth c D AC ι0 K0 A mc ms H locs cells slots ι ls' hC ⟨h1, h2, h3, h4, h5, h6, h7, g1, g2, g3⟩)
/-- of two branches -/
theorem TT.pure2 {M : Mth} {d pc pc1 pc2 : Nat} {L st st' : List V} {K : KT} {S : ST} {cb nb : Nat} {Q : List V → KT → ST → Prop} {b : Prop}
    (hw : ∀ {p : Program} {l : Launch} {e : Env} {R : Room} {s : State} {m : MethodId} {args : Array Value} {below : List Frame} {meth : Method} {c : Code} {H : Heap} {locs : List Loc} {cells slots : Nat} {Qs : State → Prop} {ι : Int → Nat} {ls : Array Slot}, p.tables.exec = Jvm.exec → c.code = M.2.1 → (∀ v ∈ st, okV K v) →
      (b → (∀ v ∈ st', okV K v) → W p l e R s m args below meth c H locs cells slots Qs (F0 m pc1 ls (st'.map (conc ι)))) →
      (¬ b → (∀ v ∈ st', okV K v) → W p l e R s m args below meth c H locs cells slots Qs (F0 m pc2 ls (st'.map (conc ι)))) →
      W p l e R s m args below meth c H locs cells slots Qs (F0 m pc ls (st.map (conc ι))))
    (k1 : b → TT M d pc1 L st' K S cb nb Q) (k2 : ¬ b → TT M d pc2 L st' K S cb nb Q) : TT M d pc L st K S cb nb Q := by
  intro p l e R s m args below meth c D AC ι0 K0 A mc ms H locs cells slots ι ls hC hX
  obtain ⟨h1, h2, h3, h4, h5, h6, h7, h8, h9, h10⟩ := id hX
  exact hw hC.1 hC.2.1 h10 (fun hb g3 => k1 hb p l e R s m args below meth c D AC ι0 K0 A mc ms H locs cells slots ι ls hC ⟨h1, h2, h3, h4, h5, h6, h7, h8, h9, g3⟩)
    (fun hb g3 => k2 hb p l e R s m args below meth c D AC ι0 K0 A mc ms H locs cells slots ι ls hC ⟨h1, h2, h3, h4, h5, h6, h7, h8, h9, g3⟩)
/-- fewer facts on the locals -/
theorem TT.forget {M : Mth} {d pc : Nat} {L L' st : List V} {K : KT} {S : ST} {cb nb : Nat} {Q : List V → KT → ST → Prop} (hL : Lle L' L) (k : TT M d pc L' st K S cb nb Q) : TT M d pc L st K S cb nb Q := by
  intro p l e R s m args below meth c D AC ι0 K0 A mc ms H locs cells slots ι ls hC hX
  obtain ⟨h1, h2, h3, h4, h5, h6, h7, h8, h9, h10⟩ := id hX
  exact k p l e R s m args below meth c D AC ι0 K0 A mc ms H locs cells slots ι ls hC ⟨h1, h2, h3, h4, h5, h6, h7, hL.LR h8, hL.ok h9, h10⟩
/-- less room -/
theorem TT.room {M : Mth} {d pc : Nat} {L st : List V} {K : KT} {S : ST} {cb nb cb' nb' : Nat} {Q : List V → KT → ST → Prop} (hc : cb' ≤ cb) (hn : nb' ≤ nb) (k : TT M d pc L st K S cb' nb' Q) : TT M d pc L st K S cb nb Q := by
  intro p l e R s m args below meth c D AC ι0 K0 A mc ms H locs cells slots ι ls hC hX
  obtain ⟨h1, h2, h3, h4, h5, h6, h7, h8, h9, h10⟩ := id hX
  exact k p l e R s m args below meth c D AC ι0 K0 A mc ms H locs cells slots ι ls hC ⟨h1, h2, h3, h4, h5, by omega, by omega, h8, h9, h10⟩
/-- what the picture says of itself: elements are in range -/
def okH (K : KT) (S : ST) : Prop := (K 0).1 = 0 ∧ (∀ a, 100 ≤ (K a).1 → 0 ≤ (K a).2 ∧ (K a).2 < 2147483648 ∧ ∀ j : Nat, (j : Int) < (K a).2 → okT K (aty (K a).1) (S a j)) ∧ (∀ a, 1 ≤ (K a).1 → (K a).1 ≤ 14 → ∀ r : vw_C, vwCl[((K a).1 - 1).toNat]? = some r → ∀ k : Nat, k < r.2.2 → okT K (fty ((K a).1 - 1).toNat k) (S a k)) ∧ ∀ a, (K a).1 = 92 → 0 ≤ (K a).2 ∧ (K a).2 < 2147483648 ∧ ∀ j : Nat, (j : Int) < (K a).2 → in32 (S a j)
theorem RR.ok {D : va_G} {AC : Int → ClassId} {ι : Int → Nat} {K : KT} {S : ST} {H : Heap} (h : RR D AC ι K S H) : okH K S := by
  refine ⟨h.1, fun a ha => ?_, fun a h1 h2 r hr k hk => ?_, fun a ha => ?_⟩
  · rcases h.2.2 a (by omega) with ⟨_, g1, g2, _, g3⟩ | ⟨g1 | g1, _⟩ | ⟨g1, _⟩ | ⟨_, g1, _⟩
    · exact ⟨g1, g2, g3⟩
    all_goals omega
  · rcases h.2.2 a (by omega) with ⟨g, _⟩ | ⟨g1 | g1, _⟩ | ⟨g1, _⟩ | ⟨_, _, r', g1, _, g2⟩
    · omega
    · omega
    · omega
    · omega
    · cases hr.symm.trans g1
      exact g2 k hk
  · rcases h.2.2 a (by omega) with ⟨g1, _⟩ | ⟨g1 | g1, _⟩ | ⟨_, g1, g2, cell, _, _, _, g3⟩ | ⟨_, g1, _⟩
    · omega
    · omega
    · omega
    · exact ⟨g1, g2, fun j hj => (g3 j hj).2⟩
    · omega
theorem TT.ok {M : Mth} {d pc : Nat} {L st : List V} {K : KT} {S : ST} {cb nb : Nat} {Q : List V → KT → ST → Prop} (k : okH K S → (∀ v ∈ L, okV K v) → (∀ v ∈ st, okV K v) → TT M d pc L st K S cb nb Q) : TT M d pc L st K S cb nb Q := by
  intro p l e R s m args below meth c D AC ι0 K0 A mc ms H locs cells slots ι ls hC hX
  obtain ⟨h1, h2, h3, h4, h5, h6, h7, h8, h9, h10⟩ := id hX
  exact k h1.ok h9 h10 p l e R s m args below meth c D AC ι0 K0 A mc ms H locs cells slots ι ls hC hX

/-! RETURNS AND CALLS -/
theorem QC.of {D : va_G} {AC : Int → ClassId} {ι0 : Int → Nat} {K0 : KT} {A : Nat → Prop} {Q : List V → KT → ST → Prop} {args : Array Value} {s t : State} {H : Heap} {locs : List Loc} {r : List V} {K : KT} {S : ST} {ι : Int → Nat} {v : Option Value} (hr : r.length ≤ 1) (hv : v = r.head?.map (conc ι)) (hQ : Q r K S) (hR : RR D AC ι K S H) (h2 : ∀ a, (K0 a).1 ≠ 0 → K a = K0 a ∧ ι a = ι0 a) (h3 : ∀ a, ROk (K a).1 → K0 a = K a) (h4 : ∀ a, (K a).1 ≠ 0 → ¬ ROk (K a).1 → A (ι a)) (ho : ∀ v ∈ r, okV K v) (hS : va_S A s.heap H locs) (ht : t.heap = H) : QC D AC ι0 K0 A Q args s (.returned v) t :=
  ⟨⟨r, K, S, ι, by rw [hv], hr, hQ, by rw [ht]; exact hR, h2, h3, ho, h4⟩, hS.F ht⟩
def oRetI : Op := fun _ Q _ _ st K S _ _ => popI st fun z st => st = [] ∧ Q [vI z] K S
theorem s_ret_i {M : Mth} {pc : Nat} (hr : M.2.2.2 = some .int) (hd : decode M.2.1 pc = .ok (.ireturn, 1)) : Snd M pc oRetI := by
  intro d T Q hT L st K S cb nb h
  obtain ⟨z, r0, rfl, e, h3⟩ := popI_o h
  subst e
  intro p l e R s m args below meth c D AC ι0 K0 A mc ms H locs cells slots ι ls hX1 hX
  obtain ⟨g1, g2, g3, g4, g5, g6, g7, g8, g9, g10⟩ := id hX
  refine W.widen (k := mc) (n := ms) (by omega) (by omega) ?_
  exact W.iret (v := i32 z) hX1.1 hX1.2.1 (hX1.2.2.1.trans hr) (fun t ht hW => QC.of (r := [vI z]) (Nat.le_refl 1) rfl h3 g1 g2 g3 g4 g10 g5 ht) g5.2.2 hd (hX1.2.2.2.2.2.2.1)
def oRetZ : Op := fun _ Q _ _ st K S _ _ => popI st fun z st => st = [] ∧ (z = 0 ∨ z = 1) ∧ Q [vI z] K S
theorem s_ret_z {M : Mth} {pc : Nat} (hr : M.2.2.2 = some .boolean) (hd : decode M.2.1 pc = .ok (.ireturn, 1)) : Snd M pc oRetZ := by
  intro d T Q hT L st K S cb nb h
  obtain ⟨z, r0, rfl, e, hz, h3⟩ := popI_o h
  subst e
  intro p l e R s m args below meth c D AC ι0 K0 A mc ms H locs cells slots ι ls hX1 hX
  obtain ⟨g1, g2, g3, g4, g5, g6, g7, g8, g9, g10⟩ := id hX
  refine W.widen (k := mc) (n := ms) (by omega) (by omega) ?_
  exact W.zret (v := i32 z) (ty := .boolean) hX1.1 hX1.2.1 (hX1.2.2.1.trans hr) (ty_nar (ty := .boolean) (K := K) rfl hz ι) (fun t ht hW => QC.of (r := [vI z]) (Nat.le_refl 1) rfl h3 g1 g2 g3 g4 g10 g5 ht) g5.2.2 hd (hX1.2.2.2.2.2.2.1)
def oRetL : Op := fun _ Q _ _ st K S _ _ => popL st fun z st => st = [] ∧ Q [vL z] K S
theorem s_ret_l {M : Mth} {pc : Nat} (hr : M.2.2.2 = some .long) (hd : decode M.2.1 pc = .ok (.lreturn, 1)) : Snd M pc oRetL := by
  intro d T Q hT L st K S cb nb h
  obtain ⟨z, r0, rfl, e, h3⟩ := popL_o h
  subst e
  intro p l e R s m args below meth c D AC ι0 K0 A mc ms H locs cells slots ι ls hX1 hX
  obtain ⟨g1, g2, g3, g4, g5, g6, g7, g8, g9, g10⟩ := id hX
  refine W.widen (k := mc) (n := ms) (by omega) (by omega) ?_
  exact W.lret (v := i64 z) hX1.1 hX1.2.1 (hX1.2.2.1.trans hr) (fun t ht hW => QC.of (r := [vL z]) (Nat.le_refl 1) rfl h3 g1 g2 g3 g4 g10 g5 ht) g5.2.2 hd (hX1.2.2.2.2.2.2.1)
def oRetA : Op := fun _ Q _ _ st K S _ _ => popR st fun z st => st = [] ∧ Q [vR z] K S
theorem s_ret_a {M : Mth} {pc : Nat} {rt : FieldType} (hr : M.2.2.2 = some rt) (hrt : (∃ n, rt = .object n) ∨ ∃ t, rt = .array t) (hd : decode M.2.1 pc = .ok (.areturn, 1)) : Snd M pc oRetA := by
  intro d T Q hT L st K S cb nb h
  obtain ⟨z, r0, rfl, e, h3⟩ := popR_o h
  subst e
  intro p l e R s m args below meth c D AC ι0 K0 A mc ms H locs cells slots ι ls hX1 hX
  obtain ⟨g1, g2, g3, g4, g5, g6, g7, g8, g9, g10⟩ := id hX
  refine W.widen (k := mc) (n := ms) (by omega) (by omega) ?_
  exact W.aret (v := cR ι z) hX1.1 hX1.2.1 (hX1.2.2.1.trans hr) hrt (cR_ref ι z) (fun t ht hW => QC.of (r := [vR z]) (Nat.le_refl 1) rfl h3 g1 g2 g3 g4 g10 g5 ht) g5.2.2 hd (hX1.2.2.2.2.2.2.1)
def oRetV : Op := fun _ Q _ _ st K S _ _ => st = [] ∧ Q [] K S
theorem s_ret_v {M : Mth} {pc : Nat} (hr : M.2.2.2 = none) (hd : decode M.2.1 pc = .ok (.return_, 1)) : Snd M pc oRetV := by
  intro d T Q hT L st K S cb nb h
  obtain ⟨e, h3⟩ := h
  subst e
  intro p l e R s m args below meth c D AC ι0 K0 A mc ms H locs cells slots ι ls hX1 hX
  obtain ⟨g1, g2, g3, g4, g5, g6, g7, g8, g9, g10⟩ := id hX
  refine W.widen (k := mc) (n := ms) (by omega) (by omega) ?_
  exact W.vret hX1.1 hX1.2.1 (hX1.2.2.1.trans hr) (fun t ht hW => QC.of (r := []) (Nat.zero_le 1) rfl h3 g1 g2 g3 g4 (fun v hv => by cases hv) g5 ht) g5.2.2 hd (hX1.2.2.2.2.2.2.1)
def oObji (nx : Nat) : Op := fun T _ _ L st K S cb nb => popR st fun z st => ¬ z = 0 ∧ stW st ≤ 8 ∧ T nx L st K S cb nb
theorem s_obji {M : Mth} {pc idx : Nat} (hl : Cond.methodLink M.1.cls idx objectInit ∈ lwG) (hi : Cond.instanceMethod objectInit ∈ lwG) (hcd : Cond.code objectInit ⟨#[0xb1]⟩ 1 none ∈ lwG) (hd : decode M.2.1 pc = .ok (.invokespecial idx, 3)) : Snd M pc (oObji (pc + 3)) := by
  intro d T Q hT L st K S cb nb h
  obtain ⟨z, r0, rfl, hz, hw, h3⟩ := popR_o h
  intro p l e R s m args below meth c D AC ι0 K0 A mc ms H locs cells slots ι ls hX1 hX
  obtain ⟨g1, g2, g3, g4, g5, g6, g7, g8, g9, g10⟩ := id hX
  have hts := hX1.2.2.2.2.1
  have hkk := hT _ _ _ _ _ _ _ h3 p l e R s m args below meth c D AC ι0 K0 A mc ms H locs cells slots ι ls hX1 ⟨g1, g2, g3, g4, g5, g6, g7, g8, g9, okt g10⟩
  have hW := stW_o ι r0
  have hf := hX1.2.2.2.2.2.2.2.2.1
  have hlo := hX1.2.2.2.2.2.2.2.2.2.1
  rw [List.map_cons, conc_R, cR_n hz]
  exact W.objInit hX1.1 hX1.2.1 hX1.2.2.2.2.2.1 (hts _ hl) (hts _ hi) (hts _ hcd) rfl (g8.2.1.trans hX1.2.2.2.1.symm) rfl hd (by omega) (by show 2 * 0 + _ + 12 ≤ _; omega) hkk
/-- a call has been made: what it left -/
theorem call_goes {p : Program} {l : Launch} {e : Env} {R : Room} {s : State} {m : MethodId} {args : Array Value} {below : List Frame} {meth : Method} {c : Code} {H : Heap} {locs : List Loc} {cells slots mc ms pc : Nat} {ls : Array Slot} {st0 rest : List Value} {Qs : State → Prop} {a : Array Value} {D : va_G} {AC : Int → ClassId} {ι : Int → Nat} {K : KT} {A0 A1 : Nat → Prop} {Q1 : List V → KT → ST → Prop} {H0 : Heap}
    (hr : va_Run p l e R s m args below meth c H locs cells slots mc ms (F0 m pc ls st0) rest (QC D AC ι K A1 Q1 a) A1) (hS : va_S A0 H0 H locs) (hf : ∀ q, A1 q → A0 q)
    (kk : ∀ (r : List V) (K' : KT) (S' : ST) (ι' : Int → Nat) (H1 : Heap) (locs1 : List Loc), r.length ≤ 1 → Q1 r K' S' → RR D AC ι' K' S' H1 → (∀ a, (K a).1 ≠ 0 → K' a = K a ∧ ι' a = ι a) → (∀ a, ROk (K' a).1 → K a = K' a) → (∀ v ∈ r, okV K' v) → (∀ a, (K' a).1 ≠ 0 → ¬ ROk (K' a).1 → A1 (ι' a)) → va_S A0 H0 H1 locs1 →
      W p l e R s m args below meth c H1 locs1 (cells + mc) (slots + ms) Qs (F0 m (pc + 3) ls (r.map (conc ι') ++ rest))) : W p l e R s m args below meth c H locs cells slots Qs (F0 m pc ls st0) := by
  intro T hT X
  obtain ⟨v, st₀, t, T', L, h0, X', hL, e1, e2, ⟨⟨r, K', S', ι', hv, hr1, hq, hR, k2, k3, k5, k4⟩, hz, hk⟩, st⟩ := hr T hT X
  cases hv
  rw [h0] at hz hk
  obtain ⟨t2, a1, b1⟩ := kk r K' S' ι' T'.heap (locs ++ L) hr1 hq (by rw [e1]; exact hR) k2 k3 k5 k4
    ⟨Nat.le_trans hS.1 (by rw [e1]; exact hz), fun q h1 h2 => by rw [e1, hk q (Nat.lt_of_lt_of_le h1 hS.1) (fun z => h2 (hf q z))]; exact hS.2.1 q h1 h2, fun q hq => by
      rcases List.mem_append.mp hq with h | h
      · exact hS.2.2 q h
      · exact hf _ (hL q h)⟩ T' rfl X'
  refine ⟨t2, st t2 ?_, b1⟩
  have hlist : (r.head?.map (conc ι')).toList ++ rest = r.map (conc ι') ++ rest := by
    match r, hr1 with
    | [], _ => rfl
    | [v], _ => rfl
    | _ :: _ :: _, h => simp at h
  show Steps p.tables e below (T'.setTop { F0 m pc ls st0 with pc := pc + 3, stack := (r.head?.map (conc ι')).toList ++ rest }) t2
  rw [hlist]
  exact a1
/-- what a caller must know of a callee -/
def MOk (M : Mth) (n : Nat) : Prop := Cond.code M.1 M.2.1 M.2.2.1 M.2.2.2 ∈ lwG ∧ Cond.initialized M.1.cls ∈ lwG ∧ M.2.2.1 ≤ 40 ∧ M.1.cls ≠ "java/lang/invoke/MethodHandle" ∧ M.1.cls ≠ "java/lang/invoke/VarHandle" ∧ (parseMethodDescriptor M.1.desc).map (fun d => d.parameters.length) = some n
theorem good_ws {M : Mth} {n : Nat} (h : MOk M n) : GoodIn lwG (Cond.code M.1 M.2.1 M.2.2.1 M.2.2.2 :: lwG) := by
  intro w hw
  rcases List.mem_cons.mp hw with rfl | hw
  · exact ⟨h.1, good_of_word (lwG_good h.1)⟩
  · exact ⟨hw, good_of_word (lwG_good hw)⟩
/-- the callee's start, out of the caller's point -/
theorem call_pre {M : Mth} {d : Nat} {D : va_G} {AC : Int → ClassId} {ι0 : Int → Nat} {K0 : KT} {A : Nat → Prop} {mc ms : Nat} {p : Program} {R : Room} {s : State} {m : MethodId} {args : Array Value} {meth : Method} {c : Code} {H : Heap} {locs : List Loc} {cells slots cb nb : Nat} {ι : Int → Nat} {ls : Array Slot} {L st : List V} {K : KT} {S : ST}
    (hX1 : CX M d D AC ι0 K0 A mc ms p R s m args meth c) (hX : DX M D AC ι0 K0 A mc ms s H locs cells slots ι ls L st K S cb nb) (as : List V) :
    FrameBlind (va_Pc (as.map (conc ι)) (fun U => U.heap.size = H.size ∧ RR D AC ι K S U.heap ∧ KK D AC U ∧ SW ι K (AA ι K H.size) U U.heap)) ∧ (∀ U : State, U.heap = H → s.WarmedH U.vm → va_Pc (as.map (conc ι)) (fun U => U.heap.size = H.size ∧ RR D AC ι K S U.heap ∧ KK D AC U ∧ SW ι K (AA ι K H.size) U U.heap) (as.map (conc ι)).toArray U) ∧ ∀ q, AA ι K H.size q → A q := by
  obtain ⟨g1, g2, g3, g4, g5, g6, g7, g8, g9, g10⟩ := hX
  have hA : ∀ q, AA ι K H.size q → A q := by
    intro q hq
    rcases hq with ⟨a, h1, h2, rfl⟩ | hq
    · exact g4 a h1 h2
    · exact hX1.2.2.2.2.2.2.2.2.2.2.2.2.2.2 q (Nat.le_trans g5.1 hq)
  refine ⟨fun a U g mk q => ?_, fun U hU hW => ⟨rfl, by rw [hU], by rw [hU]; exact g1, hX1.2.2.2.2.2.2.2.2.2.2.2.2.1.warm hW, ?_⟩, hA⟩
  · obtain ⟨q0, q1, q2, q3, q4⟩ := q
    exact ⟨q0, q1, q2, KK.same (s := U) (U := U.calling g mk a) rfl q3, SW.same (s := U) (U := U.calling g mk a) rfl q4⟩
  · rw [hU]
    exact (((hX1.2.2.2.2.2.2.2.2.2.2.2.2.2.1.re g2 g3).kept g5.2.1).narrow hA).warm hW
/-- behind a call -/
theorem call_post {M : Mth} {d : Nat} {D : va_G} {AC : Int → ClassId} {ι0 : Int → Nat} {K0 : KT} {A : Nat → Prop} {mc ms : Nat} {p : Program} {l : Launch} {e : Env} {R : Room} {s : State} {m : MethodId} {args : Array Value} {below : List Frame} {meth : Method} {c : Code} {H : Heap} {locs : List Loc} {cells slots cb nb : Nat} {ι : Int → Nat} {ls : Array Slot} {L st rest : List V} {K : KT} {S : ST} {Q : List V → KT → ST → Prop} {T : TF} {pc mc1 ms1 : Nat} {a : Array Value}
    (hX1 : CX M d D AC ι0 K0 A mc ms p R s m args meth c) (hX : DX M D AC ι0 K0 A mc ms s H locs cells slots ι ls L st K S cb nb) (hst : ∀ v ∈ rest, okV K v) (hT : ∀ pc' L st K S cb nb, T pc' L st K S cb nb → TT M d pc' L st K S cb nb Q) (hc : mc1 ≤ cb) (hn : ms1 ≤ nb)
    (hr : va_Run p l e R s m args below meth c H locs cells slots mc1 ms1 (F0 m pc ls (st.map (conc ι))) (rest.map (conc ι)) (QC D AC ι K (AA ι K H.size) (fun r K' S' => T (pc + 3) L (r ++ rest) K' S' (cb - mc1) (nb - ms1)) a) (AA ι K H.size)) :
    W p l e R s m args below meth c H locs cells slots (MQ below (QC D AC ι0 K0 A Q) args s mc ms A) (F0 m pc ls (st.map (conc ι))) := by
  obtain ⟨g1, g2, g3, g4, g5, g6, g7, g8, g9, g10⟩ := id hX
  have hA := (call_pre hX1 hX []).2.2
  refine call_goes hr g5 hA (fun r K' S' ι' H1 locs1 k1 k2 k3 k4 k5 k6 k7 k8 => ?_)
  have hi : ∀ b, (K b).1 ≠ 0 → ι' b = ι b := fun b hb => (k4 b hb).2
  have hk : ∀ b, (K b).1 ≠ 0 → K' b = K b := fun b hb => (k4 b hb).1
  have hkk := hT _ _ _ _ _ _ _ k2 p l e R s m args below meth c D AC ι0 K0 A mc ms H1 locs1 (cells + mc1) (slots + ms1) ι' ls hX1 ⟨k3, fun b hb => by
      obtain ⟨e1, e2⟩ := g2 b hb
      have hb' : (K b).1 ≠ 0 := by rw [e1]; exact hb
      exact ⟨(k4 b hb').1.trans e1, (k4 b hb').2.trans e2⟩,
    fun b hb => by
      have e1 := k5 b hb
      have hb' : ROk (K b).1 := by rw [e1]; exact hb
      exact (g3 b hb').trans e1,
    fun b h1 h2 => hA _ (k7 b h1 h2), k8, by omega, by omega, g8.agree hi g9, fun v hv => okV_mono hk (g9 v hv), fun v hv => (List.mem_append.mp hv).elim (k6 v) (fun h => okV_mono hk (hst v h))⟩
  rw [List.map_append] at hkk
  rw [List.map_congr_left (fun v hv => conc_agree hi (hst v hv))] at hkk
  exact hkk
theorem app_rest {A B : List V} {K : KT} (h : ∀ v ∈ A.reverse ++ B, okV K v) : (∀ v ∈ A, okV K v) ∧ ∀ v ∈ B, okV K v := ⟨fun v hv => h v (List.mem_append_left _ (List.mem_reverse.mpr hv)), fun v hv => h v (List.mem_append_right _ hv)⟩
/-- no argument is an unknown -/
def nJ : List V → Bool
  | [] => true
  | v :: r => (match v with | .inr (.inr (.inr _)) => false | _ => true) && nJ r
theorem nJ_n : nJ [] = true := rfl
theorem nJ_I (z : Int) (r : List V) : nJ (vI z :: r) = nJ r := Bool.true_and _
theorem nJ_L (z : Int) (r : List V) : nJ (vL z :: r) = nJ r := Bool.true_and _
theorem nJ_R (z : Int) (r : List V) : nJ (vR z :: r) = nJ r := Bool.true_and _
theorem nJ_o : ∀ {as : List V}, nJ as = true → ∀ v ∈ as, v ≠ vJ
  | [], _, _, h => by cases h
  | v :: r, h, w, hw => by
    unfold nJ at h
    rw [Bool.and_eq_true] at h
    rcases List.mem_cons.mp hw with rfl | hw
    · intro e
      subst e
      cases h.1
    · exact nJ_o h.2 w hw
def oInvS (M : Mth) (n nx : Nat) : Op := fun T _ G L st K S cb nb => popN n [] st fun as st => nJ as = true ∧ stW st ≤ 8 ∧ G M as K S cb nb (fun r K' S' cb' nb' => T nx L (r ++ st) K' S' cb' nb')
theorem s_invS {M M' : Mth} {pc idx n : Nat} (hM : MOk M' n) (hl : Cond.methodLink M.1.cls idx M'.1 ∈ lwG) (hs : Cond.static M'.1 ∈ lwG) (hd : decode M.2.1 pc = .ok (.invokestatic idx, 3)) : Snd M pc (oInvS M' n (pc + 3)) := by
  intro d T Q hT L st K S cb nb h
  obtain ⟨as, r0, rfl, hlen, hJ, hw, mc1, ms1, hc1, hs1, hMt⟩ := popN_o h
  intro p l e R s m args below meth c D AC ι0 K0 A mc ms H locs cells slots ι ls hX1 hX
  obtain ⟨g1, g2, g3, g4, g5, g6, g7, g8, g9, g10⟩ := id hX
  have hts := hX1.2.2.2.2.1
  have hf := hX1.2.2.2.2.2.2.2.2.1
  have hlo := hX1.2.2.2.2.2.2.2.2.2.1
  have hRc := hX1.2.2.2.2.2.2.2.2.2.2.1
  have hRs := hX1.2.2.2.2.2.2.2.2.2.2.2.1
  obtain ⟨ha, hb⟩ := app_rest g10
  rw [List.append_nil] at hMt hJ
  have hMet := hMt l D AC ι H.size ha (nJ_o hJ)
  obtain ⟨P1, P2, P3⟩ := call_pre hX1 hX as
  have hW := stW_o ι r0
  refine call_post (rest := r0) hX1 hX hb hT hc1 hs1 (va_runS (As := as.map (conc ι)) (n := n) ⟨hX1.1, hX1.2.1, hX1.2.2.2.1, hX1.2.2.2.2.2.1, hts⟩ hMet ⟨callB_of n hts (good_ws hM) rfl rfl rfl (hts _ hM.2.1) (hts _ hl) hM.2.2.2 ⟨by show d + 1 ≤ R.frames; omega, by show 8 + (M'.2.2.1 + 11) + 64 * d ≤ R.locals; have := hM.2.2.1; omega⟩, hts _ hs⟩ ⟨P1, P2⟩ rfl (by rw [List.length_map, hlen]) g8.2.1 (by show List.map (conc ι) (as.reverse ++ r0) = _; rw [List.map_append, List.map_reverse]) (lv_room (by omega)) hd ⟨by omega, by omega⟩)
def oInvV (kd : Int) (M : Mth) (n nx : Nat) : Op := fun T _ G L st K S cb nb => popN n [] st fun as st => popR st fun a st => (K a).1 = kd ∧ nJ as = true ∧ stW st ≤ 8 ∧ G M (vR a :: as) K S cb nb (fun r K' S' cb' nb' => T nx L (r ++ st) K' S' cb' nb')
theorem okca {K : KT} {a : Int} {as r0 : List V} (h : ∀ v ∈ as.reverse ++ vR a :: r0, okV K v) : (∀ v ∈ vR a :: as, okV K v) ∧ ∀ v ∈ r0, okV K v :=
  ⟨fun v hv => (List.mem_cons.mp hv).elim (fun e => by rw [e]; exact h _ (List.mem_append_right _ List.mem_cons_self)) (fun q => h v (List.mem_append_left _ (List.mem_reverse.mpr q))), fun v hv => h v (List.mem_append_right _ (List.mem_cons_of_mem _ hv))⟩
theorem s_invV {M M' : Mth} {pc idx n ci : Nat} {kd : Int} {r : vw_C} (hM : MOk M' n) (hr : vwCl[ci]? = some r) (hc : ci ≤ 13) (hkd : kd = (ci : Int) + 1) (hcl : M'.1.cls = r.1) (hl : Cond.methodLink M.1.cls idx M'.1 ∈ lwG) (hi : Cond.instanceMethod M'.1 ∈ lwG) (hse : Cond.selects r.1 M'.1 M'.1 ∈ lwG) (hd : decode M.2.1 pc = .ok (.invokevirtual idx, 3)) : Snd M pc (oInvV kd M' n (pc + 3)) := by
  intro d T Q hT L st K S cb nb h
  obtain ⟨as, r0, rfl, hlen, h⟩ := popN_o h
  obtain ⟨a, r1, rfl, hka, hJ, hw, mc1, ms1, hc1, hs1, hMt⟩ := popR_o h
  intro p l e R s m args below meth c D AC ι0 K0 A mc ms H locs cells slots ι ls hX1 hX
  obtain ⟨g1, g2, g3, g4, g5, g6, g7, g8, g9, g10⟩ := id hX
  have hts := hX1.2.2.2.2.1
  have hf := hX1.2.2.2.2.2.2.2.2.1
  have hlo := hX1.2.2.2.2.2.2.2.2.2.1
  have hRc := hX1.2.2.2.2.2.2.2.2.2.2.1
  have hRs := hX1.2.2.2.2.2.2.2.2.2.2.2.1
  obtain ⟨ha, hb⟩ := okca g10
  rw [List.append_nil] at hMt hJ
  have hMet := hMt l D AC ι H.size ha (nJ_o (as := vR a :: as) (by rw [nJ_R]; exact hJ))
  obtain ⟨P1, P2, P3⟩ := call_pre hX1 hX (vR a :: as)
  have hW := stW_o ι r1
  obtain ⟨r', hr', ⟨cellV, q1, q2, q3, q4⟩, -⟩ := g1.obj (hka.trans hkd) hc
  have hcls := (hX1.2.2.2.2.2.2.2.2.2.2.2.2.1.1.1 ci r hr).2
  have ea : conc ι (vR a) = .ref (ι a) := by rw [conc_R, cR_n (g1.ne0 (by omega))]
  rw [List.map_cons, ea] at hMet P1 P2
  refine call_post (rest := r1) hX1 hX hb hT hc1 hs1 (va_runV (C := r.1) (b := ι a) (As := as.map (conc ι)) (n := n) ⟨hX1.1, hX1.2.1, hX1.2.2.2.1, hX1.2.2.2.2.2.1, hts⟩ hMet ⟨callB_of n hts (good_ws hM) rfl rfl rfl (hts _ hM.2.1) (hts _ hl) hM.2.2.2 ⟨by show d + 1 ≤ R.frames; omega, by show 8 + (M'.2.2.1 + 11) + 64 * d ≤ R.locals; have := hM.2.2.1; omega⟩, hts _ hi, hts _ hse⟩ ⟨P1, ⟨cellV, q1, by rw [q3]; rfl, by rw [q2]; exact hcls.1⟩, P2⟩ rfl (by rw [List.length_map, hlen]) g8.2.1 (by show List.map (conc ι) (as.reverse ++ vR a :: r1) = _; rw [List.map_append, List.map_reverse, List.map_cons, ea]) (lv_room (by omega)) hd ⟨by omega, by omega⟩)
def oInvI (M : Mth) (n nx : Nat) : Op := fun T _ G L st K S cb nb => popN n [] st fun as st => popR st fun a st => ¬ a = 0 ∧ nJ as = true ∧ stW st ≤ 8 ∧ G M (vR a :: as) K S cb nb (fun r K' S' cb' nb' => T nx L (r ++ st) K' S' cb' nb')
theorem s_invI {M M' : Mth} {pc idx n : Nat} (hM : MOk M' n) (hret : M'.2.2.2 = none) (hnm : M'.1.name = "<init>") (hl : Cond.methodLink M.1.cls idx M'.1 ∈ lwG) (hi : Cond.instanceMethod M'.1 ∈ lwG) (hd : decode M.2.1 pc = .ok (.invokespecial idx, 3)) : Snd M pc (oInvI M' n (pc + 3)) := by
  intro d T Q hT L st K S cb nb h
  obtain ⟨as, r0, rfl, hlen, h⟩ := popN_o h
  obtain ⟨a, r1, rfl, hka, hJ, hw, mc1, ms1, hc1, hs1, hMt⟩ := popR_o h
  intro p l e R s m args below meth c D AC ι0 K0 A mc ms H locs cells slots ι ls hX1 hX
  obtain ⟨g1, g2, g3, g4, g5, g6, g7, g8, g9, g10⟩ := id hX
  have hts := hX1.2.2.2.2.1
  have hf := hX1.2.2.2.2.2.2.2.2.1
  have hlo := hX1.2.2.2.2.2.2.2.2.2.1
  have hRc := hX1.2.2.2.2.2.2.2.2.2.2.1
  have hRs := hX1.2.2.2.2.2.2.2.2.2.2.2.1
  obtain ⟨ha, hb⟩ := okca g10
  rw [List.append_nil] at hMt hJ
  have hMet := hMt l D AC ι H.size ha (nJ_o (as := vR a :: as) (by rw [nJ_R]; exact hJ))
  obtain ⟨P1, P2, P3⟩ := call_pre hX1 hX (vR a :: as)
  have hW := stW_o ι r1
  have ea : conc ι (vR a) = .ref (ι a) := by rw [conc_R, cR_n hka]
  rw [List.map_cons, ea] at hMet P1 P2
  have hgood := good_ws hM
  have hcode := hM.1
  rw [hret] at hMet hgood
  refine call_post (rest := r1) hX1 hX hb hT hc1 hs1 (va_runI (b := ι a) (As := as.map (conc ι)) (n := n) ⟨hX1.1, hX1.2.1, hX1.2.2.2.1, hX1.2.2.2.2.2.1, hts⟩ hMet (cwI n hts hgood rfl rfl rfl (hts _ hM.2.1) (hts _ hl) (hts _ hi) hnm hM.2.2.2 ⟨by show d + 1 ≤ R.frames; omega, by show 8 + (M'.2.2.1 + 11) + 64 * d ≤ R.locals; have := hM.2.2.1; omega⟩) ⟨P1, P2⟩ rfl (by rw [List.length_map, hlen]) g8.2.1 (by show List.map (conc ι) (as.reverse ++ vR a :: r1) = _; rw [List.map_append, List.map_reverse, List.map_cons, ea]) (lv_room (by omega)) hd ⟨by omega, by omega⟩)
/-- a constructor of a nest mate, private -/
theorem s_invIN {M M' : Mth} {pc idx n : Nat} {host : String} (hM : MOk M' n) (hret : M'.2.2.2 = none) (hnm : M'.1.name = "<init>") (hl : Cond.methodLinkNest M.1.cls idx M'.1 host ∈ lw_tbl) (hi : Cond.instanceMethod M'.1 ∈ lwG) (hd : decode M.2.1 pc = .ok (.invokespecial idx, 3)) : Snd M pc (oInvI M' n (pc + 3)) := by
  intro d T Q hT L st K S cb nb h
  obtain ⟨as, r0, rfl, hlen, h⟩ := popN_o h
  obtain ⟨a, r1, rfl, hka, hJ, hw, mc1, ms1, hc1, hs1, hMt⟩ := popR_o h
  intro p l e R s m args below meth c D AC ι0 K0 A mc ms H locs cells slots ι ls hX1 hX
  obtain ⟨g1, g2, g3, g4, g5, g6, g7, g8, g9, g10⟩ := id hX
  have hts := hX1.2.2.2.2.1
  have hf := hX1.2.2.2.2.2.2.2.2.1
  have hlo := hX1.2.2.2.2.2.2.2.2.2.1
  have hRc := hX1.2.2.2.2.2.2.2.2.2.2.1
  have hRs := hX1.2.2.2.2.2.2.2.2.2.2.2.1
  obtain ⟨ha, hb⟩ := okca g10
  rw [List.append_nil] at hMt hJ
  have hMet := hMt l D AC ι H.size ha (nJ_o (as := vR a :: as) (by rw [nJ_R]; exact hJ))
  obtain ⟨P1, P2, P3⟩ := call_pre hX1 hX (vR a :: as)
  have hW := stW_o ι r1
  have ea : conc ι (vR a) = .ref (ι a) := by rw [conc_R, cR_n hka]
  rw [List.map_cons, ea] at hMet P1 P2
  have hgood := good_ws hM
  rw [hret] at hMet hgood
  have hnw := hX1.2.2.2.2.2.2.2.2.2.2.2.2.1.2.1 _ hl (Or.inl ⟨_, _, _, _, rfl⟩)
  refine call_post (rest := r1) hX1 hX hb hT hc1 hs1 (va_runIN (host := host) (b := ι a) (As := as.map (conc ι)) (n := n) ⟨hX1.1, hX1.2.1, hX1.2.2.2.1, hX1.2.2.2.2.2.1, hts⟩ hMet ⟨va_cnB n hts hgood rfl rfl rfl hnw (hts _ hM.2.1) hM.2.2.2 ⟨by show d + 1 ≤ R.frames; omega, by show 8 + (M'.2.2.1 + 11) + 64 * d ≤ R.locals; have := hM.2.2.1; omega⟩, hnm, hts _ hi⟩ ⟨P1, P2⟩ rfl (by rw [List.length_map, hlen]) g8.2.1 (by show List.map (conc ι) (as.reverse ++ vR a :: r1) = _; rw [List.map_append, List.map_reverse, List.map_cons, ea]) (lv_room (by omega)) hd ⟨by omega, by omega⟩)
/-- a private static method of a nest mate -/
theorem s_invSN {M M' : Mth} {pc idx n : Nat} {host : String} (hM : MOk M' n) (hl : Cond.methodLinkNest M.1.cls idx M'.1 host ∈ lw_tbl) (hs : Cond.static M'.1 ∈ lwG) (hd : decode M.2.1 pc = .ok (.invokestatic idx, 3)) : Snd M pc (oInvS M' n (pc + 3)) := by
  intro d T Q hT L st K S cb nb h
  obtain ⟨as, r0, rfl, hlen, hJ, hw, mc1, ms1, hc1, hs1, hMt⟩ := popN_o h
  intro p l e R s m args below meth c D AC ι0 K0 A mc ms H locs cells slots ι ls hX1 hX
  obtain ⟨g1, g2, g3, g4, g5, g6, g7, g8, g9, g10⟩ := id hX
  have hts := hX1.2.2.2.2.1
  have hf := hX1.2.2.2.2.2.2.2.2.1
  have hlo := hX1.2.2.2.2.2.2.2.2.2.1
  have hRc := hX1.2.2.2.2.2.2.2.2.2.2.1
  have hRs := hX1.2.2.2.2.2.2.2.2.2.2.2.1
  obtain ⟨ha, hb⟩ := app_rest g10
  rw [List.append_nil] at hMt hJ
  have hMet := hMt l D AC ι H.size ha (nJ_o hJ)
  obtain ⟨P1, P2, P3⟩ := call_pre hX1 hX as
  have hW := stW_o ι r0
  have hnw := hX1.2.2.2.2.2.2.2.2.2.2.2.2.1.2.1 _ hl (Or.inl ⟨_, _, _, _, rfl⟩)
  refine call_post (rest := r0) hX1 hX hb hT hc1 hs1 (va_runSN (host := host) (As := as.map (conc ι)) (n := n) ⟨hX1.1, hX1.2.1, hX1.2.2.2.1, hX1.2.2.2.2.2.1, hts⟩ hMet ⟨va_cnB n hts (good_ws hM) rfl rfl rfl hnw (hts _ hM.2.1) hM.2.2.2 ⟨by show d + 1 ≤ R.frames; omega, by show 8 + (M'.2.2.1 + 11) + 64 * d ≤ R.locals; have := hM.2.2.1; omega⟩, hts _ hs, trivial⟩ ⟨P1, P2⟩ rfl (by rw [List.length_map, hlen]) g8.2.1 (by show List.map (conc ι) (as.reverse ++ r0) = _; rw [List.map_append, List.map_reverse]) (lv_room (by omega)) hd ⟨by omega, by omega⟩)
/-! the code of a method, sixteen places to a row, and its run from one stop to the next; an entry: 0 go on, 1 stop here, 2 stop behind it -/
abbrev En : Type := Nat × Op
abbrev Cd : Type := List (List En)
def SndL (M : Mth) : Nat → List En → Prop
  | _, [] => True
  | pc, e :: r => Snd M pc e.2 ∧ SndL M (pc + 1) r
def SndC (M : Mth) : Nat → Cd → Prop
  | _, [] => True
  | pc, e :: r => SndL M pc e ∧ e.length ≤ 16 ∧ SndC M (pc + 16) r
def at_ (c : Cd) (pc : Nat) : En := (c.getD (pc / 16) []).getD (pc % 16) (1, oFail)
theorem SndL.at : ∀ {M : Mth} {c : List En} {pc : Nat}, SndL M pc c → ∀ k : Nat, Snd M (pc + k) (c.getD k (1, oFail)).2
  | M, [], pc, _, k => by simp; exact s_fail
  | M, e :: r, pc, h, 0 => h.1
  | M, e :: r, pc, h, k + 1 => by
    have := h.2.at k
    rw [show pc + (k + 1) = pc + 1 + k by omega]
    simpa using this
theorem SndC.row : ∀ {M : Mth} {c : Cd} {pc : Nat}, SndC M pc c → ∀ k : Nat, SndL M (pc + 16 * k) (c.getD k [])
  | M, [], pc, _, k => by simp; trivial
  | M, e :: r, pc, h, 0 => h.1
  | M, e :: r, pc, h, k + 1 => by
    have := h.2.2.row k
    rw [show pc + 16 * (k + 1) = pc + 16 + 16 * k by omega]
    simpa using this
theorem SndC.at {M : Mth} {c : Cd} (h : SndC M 0 c) (pc : Nat) : Snd M pc (at_ c pc).2 := by
  have := (h.row (pc / 16)).at (pc % 16)
  rw [show 0 + 16 * (pc / 16) + pc % 16 = pc by omega] at this
  exact this
def bst (e : En) (T B : TF) (Q : QF) (G : GF) : TF := fun pc L st K S cb nb => match e.1 with
  | 0 => e.2 B Q G L st K S cb nb
  | 1 => T pc L st K S cb nb
  | _ => e.2 T Q G L st K S cb nb
theorem bst_0 (op : Op) (T B : TF) (Q : QF) (G : GF) (pc : Nat) (L st : List V) (K : KT) (S : ST) (cb nb : Nat) : bst (0, op) T B Q G pc L st K S cb nb = op B Q G L st K S cb nb := rfl
theorem bst_1 (op : Op) (T B : TF) (Q : QF) (G : GF) (pc : Nat) (L st : List V) (K : KT) (S : ST) (cb nb : Nat) : bst (1, op) T B Q G pc L st K S cb nb = T pc L st K S cb nb := rfl
theorem bst_2 (op : Op) (T B : TF) (Q : QF) (G : GF) (pc : Nat) (L st : List V) (K : KT) (S : ST) (cb nb : Nat) : bst (2, op) T B Q G pc L st K S cb nb = op T Q G L st K S cb nb := rfl
/-- n instructions, or to the next stop -/
def blk (c : Cd) (T : TF) (Q : QF) (G : GF) : Nat → TF
  | 0 => T
  | n + 1 => fun pc L st K S cb nb => bst (at_ c pc) T (blk c T Q G n) Q G pc L st K S cb nb
theorem blk_0 (c : Cd) (T : TF) (Q : QF) (G : GF) (pc : Nat) (L st : List V) (K : KT) (S : ST) (cb nb : Nat) : blk c T Q G 0 pc L st K S cb nb = T pc L st K S cb nb := rfl
theorem blk_s (c : Cd) (T : TF) (Q : QF) (G : GF) (n pc : Nat) (L st : List V) (K : KT) (S : ST) (cb nb : Nat) : blk c T Q G (n + 1) pc L st K S cb nb = bst (at_ c pc) T (blk c T Q G n) Q G pc L st K S cb nb := rfl
def TTf (M : Mth) (d : Nat) (Q : QF) : TF := fun pc L st K S cb nb => TT M d pc L st K S cb nb Q
theorem TTf_e (M : Mth) (d : Nat) (Q : QF) (pc : Nat) (L st : List V) (K : KT) (S : ST) (cb nb : Nat) : TTf M d Q pc L st K S cb nb = TT M d pc L st K S cb nb Q := rfl
theorem blk_o {M : Mth} {c : Cd} (h : SndC M 0 c) {d : Nat} {Q : QF} : ∀ (n pc : Nat) (L st : List V) (K : KT) (S : ST) (cb nb : Nat), blk c (TTf M (d + 1) Q) Q (GG d) n pc L st K S cb nb → TT M (d + 1) pc L st K S cb nb Q
  | 0, _, _, _, _, _, _, _, h1 => h1
  | n + 1, pc, L, st, K, S, cb, nb, h1 => by
    rw [blk_s] at h1
    have hp := h.at pc
    unfold bst at h1
    split at h1
    · exact hp d _ Q (fun pc' L st K S cb nb q => blk_o h n pc' L st K S cb nb q) L st K S cb nb h1
    · exact h1
    · exact hp d _ Q (fun pc' L st K S cb nb q => q) L st K S cb nb h1
/-- what an entry does at the start of a run: a stop's own instruction -/
def goE (e : En) (T B : TF) (Q : QF) (G : GF) : List V → List V → KT → ST → Nat → Nat → Prop := fun L st K S cb nb => match e.1 with
  | 2 => e.2 T Q G L st K S cb nb
  | _ => e.2 B Q G L st K S cb nb
theorem goE_0 (op : Op) (T B : TF) (Q : QF) (G : GF) (L st : List V) (K : KT) (S : ST) (cb nb : Nat) : goE (0, op) T B Q G L st K S cb nb = op B Q G L st K S cb nb := rfl
theorem goE_1 (op : Op) (T B : TF) (Q : QF) (G : GF) (L st : List V) (K : KT) (S : ST) (cb nb : Nat) : goE (1, op) T B Q G L st K S cb nb = op B Q G L st K S cb nb := rfl
theorem goE_2 (op : Op) (T B : TF) (Q : QF) (G : GF) (L st : List V) (K : KT) (S : ST) (cb nb : Nat) : goE (2, op) T B Q G L st K S cb nb = op T Q G L st K S cb nb := rfl
theorem TT.go {M : Mth} {c : Cd} (h : SndC M 0 c) (n : Nat) {d pc : Nat} {L st : List V} {K : KT} {S : ST} {cb nb : Nat} {Q : QF} (h1 : goE (at_ c pc) (TTf M (d + 1) Q) (blk c (TTf M (d + 1) Q) Q (GG d) n) Q (GG d) L st K S cb nb) : TT M (d + 1) pc L st K S cb nb Q := by
  have hp := h.at pc
  unfold goE at h1
  split at h1
  · exact hp d _ Q (fun pc' L st K S cb nb q => q) L st K S cb nb h1
  · exact hp d _ Q (fun pc' L st K S cb nb q => blk_o h n pc' L st K S cb nb q) L st K S cb nb h1
/-- a call that makes nothing -/
theorem GG.of0 {d : Nat} {M : Mth} {as : List V} {K : KT} {S : ST} {cb nb : Nat} {k : List V → KT → ST → Nat → Nat → Prop} (h : Mt d 0 0 M as K S (fun r K' S' => k r K' S' cb nb)) : GG d M as K S cb nb k := ⟨0, 0, Nat.zero_le _, Nat.zero_le _, h⟩
theorem GG.of {d mc ms : Nat} {M : Mth} {as : List V} {K : KT} {S : ST} {cb nb : Nat} {k : List V → KT → ST → Nat → Nat → Prop} (hc : mc ≤ cb) (hs : ms ≤ nb) (h : Mt d mc ms M as K S (fun r K' S' => k r K' S' (cb - mc) (nb - ms))) : GG d M as K S cb nb k := ⟨mc, ms, hc, hs, h⟩

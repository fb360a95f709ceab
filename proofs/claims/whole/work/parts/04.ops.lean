/-! INSTRUCTIONS OVER PICTURES: what must hold before, so that what follows holds behind -/
abbrev TF : Type := Nat → List V → List V → KT → ST → Nat → Nat → Prop
abbrev QF : Type := List V → KT → ST → Prop
abbrev GF : Type := Mth → List V → KT → ST → Nat → Nat → (List V → KT → ST → Nat → Nat → Prop) → Prop
abbrev Op : Type := TF → QF → GF → List V → List V → KT → ST → Nat → Nat → Prop
def GG (d : Nat) : GF := fun M as K S cb nb k => ∃ mc ms : Nat, mc ≤ cb ∧ ms ≤ nb ∧ Mt d mc ms M as K S (fun r K' S' => k r K' S' (cb - mc) (nb - ms))
def Snd (M : Mth) (pc : Nat) (op : Op) : Prop := ∀ (d : Nat) (T : TF) (Q : QF), (∀ pc' L st K S cb nb, T pc' L st K S cb nb → TT M (d + 1) pc' L st K S cb nb Q) → ∀ L st K S cb nb, op T Q (GG d) L st K S cb nb → TT M (d + 1) pc L st K S cb nb Q
theorem vI_ne (z : Int) : vI z ≠ vJ := fun h => by cases h
theorem vL_ne (z : Int) : vL z ≠ vJ := fun h => by cases h
theorem vR_ne (z : Int) : vR z ≠ vJ := fun h => by cases h
theorem okc {K : KT} {v : V} {st : List V} (h : okV K v) (hs : ∀ w ∈ st, okV K w) : ∀ w ∈ v :: st, okV K w := fun w hw => (List.mem_cons.mp hw).elim (fun e => e ▸ h) (hs w)
theorem okh {K : KT} {v : V} {st : List V} (h : ∀ w ∈ v :: st, okV K w) : okV K v := h v List.mem_cons_self
theorem okt {K : KT} {v : V} {st : List V} (h : ∀ w ∈ v :: st, okV K w) : ∀ w ∈ st, okV K w := fun w hw => h w (List.mem_cons_of_mem _ hw)
def popI (st : List V) (k : Int → List V → Prop) : Prop := match st with
  | .inl z :: r => k z r
  | _ => False
theorem popI_I (z : Int) (r : List V) (k : Int → List V → Prop) : popI (vI z :: r) k = k z r := rfl
theorem popI_o {st : List V} {k : Int → List V → Prop} (h : popI st k) : ∃ z r, st = vI z :: r ∧ k z r := by
  match st, h with
  | .inl z :: r, h => exact ⟨z, r, rfl, h⟩
def gI : List V → Nat → (Int → Prop) → Prop
  | [], _, _ => False
  | v :: _, 0, k => match v with
    | .inl z => k z
    | _ => False
  | _ :: L, j + 1, k => gI L j k
theorem gI_0 (z : Int) (L : List V) (k : Int → Prop) : gI (vI z :: L) 0 k = k z := rfl
theorem gI_s (v : V) (L : List V) (j : Nat) (k : Int → Prop) : gI (v :: L) (j + 1) k = gI L j k := rfl
theorem gI_o : ∀ {L : List V} {j : Nat} {k : Int → Prop}, gI L j k → ∃ z, L[j]? = some (vI z) ∧ k z
  | [], _, _, h => h.elim
  | .inl z :: _, 0, _, h => ⟨z, rfl, h⟩
  | _ :: L, j + 1, _, h => by
    obtain ⟨z, h1, h2⟩ := gI_o (L := L) (j := j) h
    exact ⟨z, by simpa using h1, h2⟩
def popL (st : List V) (k : Int → List V → Prop) : Prop := match st with
  | .inr (.inl z) :: r => k z r
  | _ => False
theorem popL_L (z : Int) (r : List V) (k : Int → List V → Prop) : popL (vL z :: r) k = k z r := rfl
theorem popL_o {st : List V} {k : Int → List V → Prop} (h : popL st k) : ∃ z r, st = vL z :: r ∧ k z r := by
  match st, h with
  | .inr (.inl z) :: r, h => exact ⟨z, r, rfl, h⟩
def gL : List V → Nat → (Int → Prop) → Prop
  | [], _, _ => False
  | v :: _, 0, k => match v with
    | .inr (.inl z) => k z
    | _ => False
  | _ :: L, j + 1, k => gL L j k
theorem gL_0 (z : Int) (L : List V) (k : Int → Prop) : gL (vL z :: L) 0 k = k z := rfl
theorem gL_s (v : V) (L : List V) (j : Nat) (k : Int → Prop) : gL (v :: L) (j + 1) k = gL L j k := rfl
theorem gL_o : ∀ {L : List V} {j : Nat} {k : Int → Prop}, gL L j k → ∃ z, L[j]? = some (vL z) ∧ k z
  | [], _, _, h => h.elim
  | .inr (.inl z) :: _, 0, _, h => ⟨z, rfl, h⟩
  | _ :: L, j + 1, _, h => by
    obtain ⟨z, h1, h2⟩ := gL_o (L := L) (j := j) h
    exact ⟨z, by simpa using h1, h2⟩
def popR (st : List V) (k : Int → List V → Prop) : Prop := match st with
  | .inr (.inr (.inl z)) :: r => k z r
  | _ => False
theorem popR_R (z : Int) (r : List V) (k : Int → List V → Prop) : popR (vR z :: r) k = k z r := rfl
theorem popR_o {st : List V} {k : Int → List V → Prop} (h : popR st k) : ∃ z r, st = vR z :: r ∧ k z r := by
  match st, h with
  | .inr (.inr (.inl z)) :: r, h => exact ⟨z, r, rfl, h⟩
def gR : List V → Nat → (Int → Prop) → Prop
  | [], _, _ => False
  | v :: _, 0, k => match v with
    | .inr (.inr (.inl z)) => k z
    | _ => False
  | _ :: L, j + 1, k => gR L j k
theorem gR_0 (z : Int) (L : List V) (k : Int → Prop) : gR (vR z :: L) 0 k = k z := rfl
theorem gR_s (v : V) (L : List V) (j : Nat) (k : Int → Prop) : gR (v :: L) (j + 1) k = gR L j k := rfl
theorem gR_o : ∀ {L : List V} {j : Nat} {k : Int → Prop}, gR L j k → ∃ z, L[j]? = some (vR z) ∧ k z
  | [], _, _, h => h.elim
  | .inr (.inr (.inl z)) :: _, 0, _, h => ⟨z, rfl, h⟩
  | _ :: L, j + 1, _, h => by
    obtain ⟨z, h1, h2⟩ := gR_o (L := L) (j := j) h
    exact ⟨z, by simpa using h1, h2⟩
def popS (st : List V) (k : V → List V → Prop) : Prop := match st with
  | .inl z :: r => k (vI z) r
  | .inr (.inr (.inl z)) :: r => k (vR z) r
  | _ => False
theorem popS_I (z : Int) (r : List V) (k : V → List V → Prop) : popS (vI z :: r) k = k (vI z) r := rfl
theorem popS_R (z : Int) (r : List V) (k : V → List V → Prop) : popS (vR z :: r) k = k (vR z) r := rfl
theorem popS_o {st : List V} {k : V → List V → Prop} (h : popS st k) : ∃ v r, st = v :: r ∧ (∀ ι, (conc ι v).category = 1) ∧ k v r := by
  match st, h with
  | .inl z :: r, h => exact ⟨vI z, r, rfl, fun _ => rfl, h⟩
  | .inr (.inr (.inl z)) :: r, h =>
    refine ⟨vR z, r, rfl, fun ι => ?_, h⟩
    show (cR ι z).category = 1
    unfold cR
    split <;> rfl
def popN : Nat → List V → List V → (List V → List V → Prop) → Prop
  | 0, acc, st, k => k acc st
  | n + 1, acc, st, k => match st with
    | v :: r => popN n (v :: acc) r k
    | [] => False
theorem popN_0 (acc st : List V) (k : List V → List V → Prop) : popN 0 acc st k = k acc st := rfl
theorem popN_s (n : Nat) (acc r : List V) (v : V) (k : List V → List V → Prop) : popN (n + 1) acc (v :: r) k = popN n (v :: acc) r k := rfl
theorem popN_o : ∀ {n : Nat} {acc st : List V} {k : List V → List V → Prop}, popN n acc st k → ∃ as r, st = as.reverse ++ r ∧ as.length = n ∧ k (as ++ acc) r
  | 0, acc, st, k, h => ⟨[], st, rfl, rfl, h⟩
  | n + 1, acc, v :: st, k, h => by
    obtain ⟨as, r, h1, h2, h3⟩ := popN_o (n := n) h
    refine ⟨as ++ [v], r, by rw [h1]; simp, by rw [List.length_append, h2]; rfl, ?_⟩
    rw [List.append_assoc]
    exact h3
  | n + 1, acc, [], k, h => h.elim
/-- how many words the stack has -/
def stW : List V → Nat
  | [] => 0
  | v :: r => (if isLong v then 2 else 1) + stW r
theorem stW_n : stW [] = 0 := rfl
theorem stW_I (z : Int) (r : List V) : stW (vI z :: r) = 1 + stW r := rfl
theorem stW_R (z : Int) (r : List V) : stW (vR z :: r) = 1 + stW r := rfl
theorem stW_L (z : Int) (r : List V) : stW (vL z :: r) = 2 + stW r := rfl
theorem stW_o (ι : Int → Nat) : ∀ st : List V, ((st.map (conc ι)).map fun v => v.category).sum ≤ stW st
  | [] => Nat.le_refl _
  | v :: r => by
    have ih := stW_o ι r
    rw [List.map_cons, List.map_cons, List.sum_cons]
    show _ ≤ (if isLong v then 2 else 1) + stW r
    match v with
    | .inl z => exact Nat.add_le_add (Nat.le_refl 1) ih
    | .inr (.inl z) => exact Nat.add_le_add (Nat.le_refl 2) ih
    | .inr (.inr (.inl z)) =>
      refine Nat.add_le_add ?_ ih
      show (cR ι z).category ≤ 1
      unfold cR
      split <;> exact Nat.le_refl 1
    | .inr (.inr (.inr ())) => exact Nat.add_le_add (Nat.le_refl 1) ih
def oFail : Op := fun _ _ _ _ _ _ _ _ _ => False
theorem s_fail {M : Mth} {pc : Nat} : Snd M pc oFail := fun _ _ _ _ _ _ _ _ _ _ h => h.elim
def oPush (v : V) (nx : Nat) : Op := fun T _ _ L st K S cb nb => T nx L (v :: st) K S cb nb
theorem s_iconst {M : Mth} {pc : Nat} {n : Int} (hd : decode M.2.1 pc = .ok (.iconst n, 1)) (hn : in32 n) : Snd M pc (oPush (vI n) (pc + 1)) := by
  intro d T Q hT L st K S cb nb h
  refine TT.pure (fun hx hb hown hts hK0 hl hL hst kk => ?_) (hT _ _ _ _ _ _ _ h)
  refine lv_iconst (v := i32 n) hx hb hd rfl ?_
  exact kk _ hl hL (okc hn hst)
theorem s_bipush {M : Mth} {pc : Nat} {n : Int} (hd : decode M.2.1 pc = .ok (.bipush n, 2)) (hn : in32 n) (hv : (Int8.ofInt n).toInt32 = i32 n) : Snd M pc (oPush (vI n) (pc + 2)) := by
  intro d T Q hT L st K S cb nb h
  refine TT.pure (fun hx hb hown hts hK0 hl hL hst kk => ?_) (hT _ _ _ _ _ _ _ h)
  refine lv_bipush (v := i32 n) hx hb hd hv ?_
  exact kk _ hl hL (okc hn hst)
theorem s_sipush {M : Mth} {pc : Nat} {n : Int} (hd : decode M.2.1 pc = .ok (.sipush n, 3)) (hn : in32 n) (hv : (Int16.ofInt n).toInt32 = i32 n) : Snd M pc (oPush (vI n) (pc + 3)) := by
  intro d T Q hT L st K S cb nb h
  refine TT.pure (fun hx hb hown hts hK0 hl hL hst kk => ?_) (hT _ _ _ _ _ _ _ h)
  refine lv_sipush (v := i32 n) hx hb hd hv ?_
  exact kk _ hl hL (okc hn hst)
theorem s_lconst {M : Mth} {pc : Nat} {n : Fin 2} {z : Int} (hd : decode M.2.1 pc = .ok (.lconst n, 1)) (hn : in64 z) (hv : Int64.ofNat (n : Nat) = i64 z) : Snd M pc (oPush (vL z) (pc + 1)) := by
  intro d T Q hT L st K S cb nb h
  refine TT.pure (fun hx hb hown hts hK0 hl hL hst kk => ?_) (hT _ _ _ _ _ _ _ h)
  refine lv_lconst (v := i64 z) hx hb hd hv ?_
  exact kk _ hl hL (okc hn hst)
theorem s_null {M : Mth} {pc : Nat}  (hd : decode M.2.1 pc = .ok (.aconst_null, 1)) : Snd M pc (oPush (vR 0) (pc + 1)) := by
  intro d T Q hT L st K S cb nb h
  refine TT.pure (fun hx hb hown hts hK0 hl hL hst kk => ?_) (hT _ _ _ _ _ _ _ h)
  refine lv_null hx hb hd ?_
  exact kk _ hl hL (okc (Or.inl rfl) hst)
theorem s_ldc {M : Mth} {pc : Nat} {index : Nat} {z : Int} (hd : decode M.2.1 pc = .ok (.ldc index, 2)) (hn : in32 z) (hc : Cond.constant M.1.cls index (i32 z) ∈ lwG) : Snd M pc (oPush (vI z) (pc + 2)) := by
  intro d T Q hT L st K S cb nb h
  refine TT.pure (fun hx hb hown hts hK0 hl hL hst kk => ?_) (hT _ _ _ _ _ _ _ h)
  refine lv_ldc (v := i32 z) hx hb hown (hts _ hc) hd ?_
  exact kk _ hl hL (okc hn hst)
theorem s_ldcw {M : Mth} {pc : Nat} {index : Nat} {z : Int} (hd : decode M.2.1 pc = .ok (.ldc_w index, 3)) (hn : in32 z) (hc : Cond.constant M.1.cls index (i32 z) ∈ lwG) : Snd M pc (oPush (vI z) (pc + 3)) := by
  intro d T Q hT L st K S cb nb h
  refine TT.pure (fun hx hb hown hts hK0 hl hL hst kk => ?_) (hT _ _ _ _ _ _ _ h)
  refine lv_ldcw (v := i32 z) hx hb hown (hts _ hc) hd ?_
  exact kk _ hl hL (okc hn hst)
theorem s_ldc2 {M : Mth} {pc : Nat} {index : Nat} {z : Int} (hd : decode M.2.1 pc = .ok (.ldc2_w index, 3)) (hn : in64 z) (hc : Cond.constantLong M.1.cls index (i64 z) ∈ lwG) : Snd M pc (oPush (vL z) (pc + 3)) := by
  intro d T Q hT L st K S cb nb h
  refine TT.pure (fun hx hb hown hts hK0 hl hL hst kk => ?_) (hT _ _ _ _ _ _ _ h)
  refine lv_ldc2 (v := i64 z) hx hb hown (hts _ hc) hd ?_
  exact kk _ hl hL (okc hn hst)
def oIload (j nx : Nat) : Op := fun T _ _ L st K S cb nb => gI L j fun z => T nx L (vI z :: st) K S cb nb
theorem s_iload {M : Mth} {pc i : Nat} (hd : decode M.2.1 pc = .ok (.iload i, 2)) : Snd M pc (oIload i (pc + 2)) := by
  intro d T Q hT L st K S cb nb h
  obtain ⟨z, hz, h⟩ := gI_o h
  refine TT.pure (fun hx hb hown hts hK0 hl hL hst kk => ?_) (hT _ _ _ _ _ _ _ h)
  refine lv_iload hx hb hd (hl.2.2.2 i _ hz (vI_ne z)) ?_
  exact kk _ hl hL (okc (hL _ (List.mem_of_getElem? hz)) hst)
theorem s_iload_n {M : Mth} {pc i : Nat} {k : Fin 4} (hd : decode M.2.1 pc = .ok (.iload_n k, 1)) (hi : (k : Nat) = i) : Snd M pc (oIload i (pc + 1)) := by
  intro d T Q hT L st K S cb nb h
  obtain ⟨z, hz, h⟩ := gI_o h
  refine TT.pure (fun hx hb hown hts hK0 hl hL hst kk => ?_) (hT _ _ _ _ _ _ _ h)
  refine lv_iload_n hx hb hd hi (hl.2.2.2 i _ hz (vI_ne z)) ?_
  exact kk _ hl hL (okc (hL _ (List.mem_of_getElem? hz)) hst)
def oLload (j nx : Nat) : Op := fun T _ _ L st K S cb nb => gL L j fun z => T nx L (vL z :: st) K S cb nb
theorem s_lload {M : Mth} {pc i : Nat} (hd : decode M.2.1 pc = .ok (.lload i, 2)) : Snd M pc (oLload i (pc + 2)) := by
  intro d T Q hT L st K S cb nb h
  obtain ⟨z, hz, h⟩ := gL_o h
  refine TT.pure (fun hx hb hown hts hK0 hl hL hst kk => ?_) (hT _ _ _ _ _ _ _ h)
  refine lv_lload hx hb hd (hl.2.2.2 i _ hz (vL_ne z)) ?_
  exact kk _ hl hL (okc (hL _ (List.mem_of_getElem? hz)) hst)
theorem s_lload_n {M : Mth} {pc i : Nat} {k : Fin 4} (hd : decode M.2.1 pc = .ok (.lload_n k, 1)) (hi : (k : Nat) = i) : Snd M pc (oLload i (pc + 1)) := by
  intro d T Q hT L st K S cb nb h
  obtain ⟨z, hz, h⟩ := gL_o h
  refine TT.pure (fun hx hb hown hts hK0 hl hL hst kk => ?_) (hT _ _ _ _ _ _ _ h)
  refine lv_lload_n hx hb hd hi (hl.2.2.2 i _ hz (vL_ne z)) ?_
  exact kk _ hl hL (okc (hL _ (List.mem_of_getElem? hz)) hst)
def oRload (j nx : Nat) : Op := fun T _ _ L st K S cb nb => gR L j fun z => T nx L (vR z :: st) K S cb nb
theorem s_aload {M : Mth} {pc i : Nat} (hd : decode M.2.1 pc = .ok (.aload i, 2)) : Snd M pc (oRload i (pc + 2)) := by
  intro d T Q hT L st K S cb nb h
  obtain ⟨z, hz, h⟩ := gR_o h
  refine TT.pure (fun {p l e R s m args below meth c H locs cells slots Qs ι ls} hx hb hown hts hK0 hl hL hst kk => ?_) (hT _ _ _ _ _ _ _ h)
  have hk := kk _ hl hL (okc (hL _ (List.mem_of_getElem? hz)) hst)
  have hv := hl.2.2.2 i _ hz (vR_ne z)
  rw [List.map_cons, conc_R] at hk
  rw [conc_R] at hv
  by_cases e0 : z = 0
  · rw [e0, cR_0] at hk hv
    exact lv_aloadN hx hb hd hv hk
  · rw [cR_n e0] at hk hv
    exact lv_aload hx hb hd hv hk
theorem s_aload_n {M : Mth} {pc i : Nat} {k : Fin 4} (hd : decode M.2.1 pc = .ok (.aload_n k, 1)) (hi : (k : Nat) = i) : Snd M pc (oRload i (pc + 1)) := by
  intro d T Q hT L st K S cb nb h
  obtain ⟨z, hz, h⟩ := gR_o h
  refine TT.pure (fun {p l e R s m args below meth c H locs cells slots Qs ι ls} hx hb hown hts hK0 hl hL hst kk => ?_) (hT _ _ _ _ _ _ _ h)
  have hk := kk _ hl hL (okc (hL _ (List.mem_of_getElem? hz)) hst)
  have hv := hl.2.2.2 i _ hz (vR_ne z)
  rw [List.map_cons, conc_R] at hk
  rw [conc_R] at hv
  by_cases e0 : z = 0
  · rw [e0, cR_0] at hk hv
    exact lv_aload_nN hx hb hd hi hv hk
  · rw [cR_n e0] at hk hv
    exact lv_aload_n hx hb hd hi hv hk
def oIstore (j nx : Nat) : Op := fun T _ _ L st K S cb nb => popI st fun z st => T nx (st1 L j (vI z)) st K S cb nb
theorem s_istore {M : Mth} {pc i : Nat} (hd : decode M.2.1 pc = .ok (.istore i, 2)) (hn : i < M.2.2.1) : Snd M pc (oIstore i (pc + 2)) := by
  intro d T Q hT L st K S cb nb h
  obtain ⟨z, r, rfl, h⟩ := popI_o h
  refine TT.pure (fun hx hb hown hts hK0 hl hL hst kk => ?_) (hT _ _ _ _ _ _ _ h)
  exact lv_istore hx hb hd hl.has hn rfl (fun ls' h' => kk ls' (hl.st1 (v := vI z) h') (ok_st1 hL (okh hst)) (okt hst))
theorem s_istore_n {M : Mth} {pc i : Nat} {k : Fin 4} (hd : decode M.2.1 pc = .ok (.istore_n k, 1)) (hi : (k : Nat) = i) (hn : i < M.2.2.1) : Snd M pc (oIstore i (pc + 1)) := by
  intro d T Q hT L st K S cb nb h
  obtain ⟨z, r, rfl, h⟩ := popI_o h
  refine TT.pure (fun hx hb hown hts hK0 hl hL hst kk => ?_) (hT _ _ _ _ _ _ _ h)
  exact lv_istore_n hx hb hd hi hl.has hn rfl (fun ls' h' => kk ls' (hl.st1 (v := vI z) h') (ok_st1 hL (okh hst)) (okt hst))
def oLstore (j nx : Nat) : Op := fun T _ _ L st K S cb nb => popL st fun z st => T nx (st2 L j (vL z)) st K S cb nb
theorem s_lstore {M : Mth} {pc i : Nat} (hd : decode M.2.1 pc = .ok (.lstore i, 2)) (hn : i + 1 < M.2.2.1) : Snd M pc (oLstore i (pc + 2)) := by
  intro d T Q hT L st K S cb nb h
  obtain ⟨z, r, rfl, h⟩ := popL_o h
  refine TT.pure (fun hx hb hown hts hK0 hl hL hst kk => ?_) (hT _ _ _ _ _ _ _ h)
  exact lv_lstore hx hb hd hl.has hn rfl (fun ls' h' => kk ls' (hl.st2 (v := vL z) h') (ok_st2 hL (okh hst)) (okt hst))
theorem s_lstore_n {M : Mth} {pc i : Nat} {k : Fin 4} (hd : decode M.2.1 pc = .ok (.lstore_n k, 1)) (hi : (k : Nat) = i) (hn : i + 1 < M.2.2.1) : Snd M pc (oLstore i (pc + 1)) := by
  intro d T Q hT L st K S cb nb h
  obtain ⟨z, r, rfl, h⟩ := popL_o h
  refine TT.pure (fun hx hb hown hts hK0 hl hL hst kk => ?_) (hT _ _ _ _ _ _ _ h)
  exact lv_lstore_n hx hb hd hi hl.has hn rfl (fun ls' h' => kk ls' (hl.st2 (v := vL z) h') (ok_st2 hL (okh hst)) (okt hst))
def oRstore (j nx : Nat) : Op := fun T _ _ L st K S cb nb => popR st fun z st => T nx (st1 L j (vR z)) st K S cb nb
theorem s_astore {M : Mth} {pc i : Nat} (hd : decode M.2.1 pc = .ok (.astore i, 2)) (hn : i < M.2.2.1) : Snd M pc (oRstore i (pc + 2)) := by
  intro d T Q hT L st K S cb nb h
  obtain ⟨z, r, rfl, h⟩ := popR_o h
  refine TT.pure (fun {p l e R s m args below meth c H locs cells slots Qs ι ls} hx hb hown hts hK0 hl hL hst kk => ?_) (hT _ _ _ _ _ _ _ h)
  have key : ∀ ls' : Array Slot, lv_has ls' M.2.2.1 ((i, conc ι (vR z)) :: (lvl ι 0 L).filter (fun q => !(q.1 == i) && !(q.1 + 1 == i && q.2.category == 2))) → W p l e R s m args below meth c H locs cells slots Qs (F0 m (pc + 2) ls' (r.map (conc ι))) := fun ls' h' => kk ls' (hl.st1 (v := vR z) h') (ok_st1 hL (okh hst)) (okt hst)
  rw [List.map_cons]
  rw [conc_R] at key ⊢
  by_cases e0 : z = 0
  · rw [e0, cR_0] at key ⊢
    exact lv_astoreN hx hb hd hl.has hn rfl key
  · rw [cR_n e0] at key ⊢
    exact lv_astore hx hb hd hl.has hn rfl key
theorem s_astore_n {M : Mth} {pc i : Nat} {k : Fin 4} (hd : decode M.2.1 pc = .ok (.astore_n k, 1)) (hi : (k : Nat) = i) (hn : i < M.2.2.1) : Snd M pc (oRstore i (pc + 1)) := by
  intro d T Q hT L st K S cb nb h
  obtain ⟨z, r, rfl, h⟩ := popR_o h
  refine TT.pure (fun {p l e R s m args below meth c H locs cells slots Qs ι ls} hx hb hown hts hK0 hl hL hst kk => ?_) (hT _ _ _ _ _ _ _ h)
  have key : ∀ ls' : Array Slot, lv_has ls' M.2.2.1 ((i, conc ι (vR z)) :: (lvl ι 0 L).filter (fun q => !(q.1 == i) && !(q.1 + 1 == i && q.2.category == 2))) → W p l e R s m args below meth c H locs cells slots Qs (F0 m (pc + 1) ls' (r.map (conc ι))) := fun ls' h' => kk ls' (hl.st1 (v := vR z) h') (ok_st1 hL (okh hst)) (okt hst)
  rw [List.map_cons]
  rw [conc_R] at key ⊢
  by_cases e0 : z = 0
  · rw [e0, cR_0] at key ⊢
    exact lv_astore_nN hx hb hd hi hl.has hn rfl key
  · rw [cR_n e0] at key ⊢
    exact lv_astore_n hx hb hd hi hl.has hn rfl key
def oIinc (j : Nat) (n : Int) (nx : Nat) : Op := fun T _ _ L st K S cb nb => gI L j fun z => T nx (st1 L j (vI (w32 (z + n)))) st K S cb nb
theorem s_iinc {M : Mth} {pc i : Nat} {n : Int} (hd : decode M.2.1 pc = .ok (.iinc i n, 3)) (hn : i < M.2.2.1) : Snd M pc (oIinc i n (pc + 3)) := by
  intro d T Q hT L st K S cb nb h
  obtain ⟨z, hz, h⟩ := gI_o h
  refine TT.pure (fun {p l e R s m args below meth c H locs cells slots Qs ι ls} hx hb hown hts hK0 hl hL hst kk => ?_) (hT _ _ _ _ _ _ _ h)
  have hm := lvl_mem ι L 0 i _ hz (vI_ne z)
  rw [Nat.zero_add] at hm
  obtain ⟨k, hk⟩ := List.getElem?_of_mem hm
  refine lv_iinc (k := k) (x := i32 z) (v := i32 (w32 (z + n))) hx hb hd hl.has hk ?_ hn rfl (fun ls' h' => kk ls' (hl.st1 (v := vI (w32 (z + n))) h') (ok_st1 hL (w32_in _)) hst)
  rw [i32_w]
  exact (Int32.ofInt_add z n).symm
def iand (x y : Int) : Int := (i32 x &&& i32 y).toInt
def ior (x y : Int) : Int := (i32 x ||| i32 y).toInt
def ishl (x y : Int) : Int := (i32 x <<< (i32 y &&& 31)).toInt
def ishr (x y : Int) : Int := (i32 x >>> (i32 y &&& 31)).toInt
def iushr (x y : Int) : Int := ((i32 x).toUInt32 >>> ((i32 y).toUInt32 &&& Int32.toUInt32 31)).toInt32.toInt
def idiv (x y : Int) : Int := (i32 x / i32 y).toInt
def irem (x y : Int) : Int := (i32 x - i32 x / i32 y * i32 y).toInt
def land (x y : Int) : Int := (i64 x &&& i64 y).toInt
def lor (x y : Int) : Int := (i64 x ||| i64 y).toInt
def lxor (x y : Int) : Int := (i64 x ^^^ i64 y).toInt
def lshl (x y : Int) : Int := (i64 x <<< ((i32 y).toInt64 &&& 63)).toInt
def lshr (x y : Int) : Int := (i64 x >>> ((i32 y).toInt64 &&& 63)).toInt
def lushr (x y : Int) : Int := ((i64 x).toUInt64 >>> ((i32 y).toInt64.toUInt64 &&& Int64.toUInt64 63)).toInt64.toInt
def lcmpv (x y : Int) : Int := (lg_cmp (i64 x) (i64 y)).toInt
def i2bv (x : Int) : Int := (i32 x).toInt8.toInt32.toInt
def i2sv (x : Int) : Int := (i32 x).toInt16.toInt32.toInt
def oIadd (nx : Nat) : Op := fun T _ _ L st K S cb nb => popI st fun y st => popI st fun x st => T nx L (vI (w32 (x + y)) :: st) K S cb nb
theorem s_iadd {M : Mth} {pc : Nat} (hd : decode M.2.1 pc = .ok (.iadd, 1)) : Snd M pc (oIadd (pc + 1)) := by
  intro d T Q hT L st K S cb nb h
  obtain ⟨y, r, rfl, h1⟩ := popI_o h
  obtain ⟨x, r, rfl, h⟩ := popI_o h1
  refine TT.pure (fun {p l e R s m args below meth c H locs cells slots Qs ι ls} hx hb hown hts hK0 hl hL hst kk => ?_) (hT _ _ _ _ _ _ _ h)
  have hk := kk _ hl hL (okc (w32_in _) (okt (okt hst)))
  have e : conc ι (vI (w32 (x + y))) = .int (_) := congrArg Value.int ((i32_w _).trans ((Int32.ofInt_add x y).symm).symm)
  rw [List.map_cons, e] at hk
  exact lv_iadd hx hb hd hk
def oIsub (nx : Nat) : Op := fun T _ _ L st K S cb nb => popI st fun y st => popI st fun x st => T nx L (vI (w32 (x - y)) :: st) K S cb nb
theorem s_isub {M : Mth} {pc : Nat} (hd : decode M.2.1 pc = .ok (.isub, 1)) : Snd M pc (oIsub (pc + 1)) := by
  intro d T Q hT L st K S cb nb h
  obtain ⟨y, r, rfl, h1⟩ := popI_o h
  obtain ⟨x, r, rfl, h⟩ := popI_o h1
  refine TT.pure (fun {p l e R s m args below meth c H locs cells slots Qs ι ls} hx hb hown hts hK0 hl hL hst kk => ?_) (hT _ _ _ _ _ _ _ h)
  have hk := kk _ hl hL (okc (w32_in _) (okt (okt hst)))
  have e : conc ι (vI (w32 (x - y))) = .int (_) := congrArg Value.int ((i32_w _).trans ((Int32.ofInt_sub x y).symm).symm)
  rw [List.map_cons, e] at hk
  exact lv_isub hx hb hd hk
def oImul (nx : Nat) : Op := fun T _ _ L st K S cb nb => popI st fun y st => popI st fun x st => T nx L (vI (w32 (x * y)) :: st) K S cb nb
theorem s_imul {M : Mth} {pc : Nat} (hd : decode M.2.1 pc = .ok (.imul, 1)) : Snd M pc (oImul (pc + 1)) := by
  intro d T Q hT L st K S cb nb h
  obtain ⟨y, r, rfl, h1⟩ := popI_o h
  obtain ⟨x, r, rfl, h⟩ := popI_o h1
  refine TT.pure (fun {p l e R s m args below meth c H locs cells slots Qs ι ls} hx hb hown hts hK0 hl hL hst kk => ?_) (hT _ _ _ _ _ _ _ h)
  have hk := kk _ hl hL (okc (w32_in _) (okt (okt hst)))
  have e : conc ι (vI (w32 (x * y))) = .int (_) := congrArg Value.int ((i32_w _).trans ((Int32.ofInt_mul x y).symm).symm)
  rw [List.map_cons, e] at hk
  exact lv_imul hx hb hd hk
def oIand (nx : Nat) : Op := fun T _ _ L st K S cb nb => popI st fun y st => popI st fun x st => T nx L (vI (iand x y) :: st) K S cb nb
theorem s_iand {M : Mth} {pc : Nat} (hd : decode M.2.1 pc = .ok (.iand, 1)) : Snd M pc (oIand (pc + 1)) := by
  intro d T Q hT L st K S cb nb h
  obtain ⟨y, r, rfl, h1⟩ := popI_o h
  obtain ⟨x, r, rfl, h⟩ := popI_o h1
  refine TT.pure (fun {p l e R s m args below meth c H locs cells slots Qs ι ls} hx hb hown hts hK0 hl hL hst kk => ?_) (hT _ _ _ _ _ _ _ h)
  have hk := kk _ hl hL (okc (in32_of _) (okt (okt hst)))
  have e : conc ι (vI (iand x y)) = .int (_) := congrArg Value.int (i32_of _)
  rw [List.map_cons, e] at hk
  exact lv_iand hx hb hd hk
def oIor (nx : Nat) : Op := fun T _ _ L st K S cb nb => popI st fun y st => popI st fun x st => T nx L (vI (ior x y) :: st) K S cb nb
theorem s_ior {M : Mth} {pc : Nat} (hd : decode M.2.1 pc = .ok (.ior, 1)) : Snd M pc (oIor (pc + 1)) := by
  intro d T Q hT L st K S cb nb h
  obtain ⟨y, r, rfl, h1⟩ := popI_o h
  obtain ⟨x, r, rfl, h⟩ := popI_o h1
  refine TT.pure (fun {p l e R s m args below meth c H locs cells slots Qs ι ls} hx hb hown hts hK0 hl hL hst kk => ?_) (hT _ _ _ _ _ _ _ h)
  have hk := kk _ hl hL (okc (in32_of _) (okt (okt hst)))
  have e : conc ι (vI (ior x y)) = .int (_) := congrArg Value.int (i32_of _)
  rw [List.map_cons, e] at hk
  exact lv_ior hx hb hd hk
def oIshl (nx : Nat) : Op := fun T _ _ L st K S cb nb => popI st fun y st => popI st fun x st => T nx L (vI (ishl x y) :: st) K S cb nb
theorem s_ishl {M : Mth} {pc : Nat} (hd : decode M.2.1 pc = .ok (.ishl, 1)) : Snd M pc (oIshl (pc + 1)) := by
  intro d T Q hT L st K S cb nb h
  obtain ⟨y, r, rfl, h1⟩ := popI_o h
  obtain ⟨x, r, rfl, h⟩ := popI_o h1
  refine TT.pure (fun {p l e R s m args below meth c H locs cells slots Qs ι ls} hx hb hown hts hK0 hl hL hst kk => ?_) (hT _ _ _ _ _ _ _ h)
  have hk := kk _ hl hL (okc (in32_of _) (okt (okt hst)))
  have e : conc ι (vI (ishl x y)) = .int (_) := congrArg Value.int (i32_of _)
  rw [List.map_cons, e] at hk
  exact lv_ishl hx hb hd hk
def oIshr (nx : Nat) : Op := fun T _ _ L st K S cb nb => popI st fun y st => popI st fun x st => T nx L (vI (ishr x y) :: st) K S cb nb
theorem s_ishr {M : Mth} {pc : Nat} (hd : decode M.2.1 pc = .ok (.ishr, 1)) : Snd M pc (oIshr (pc + 1)) := by
  intro d T Q hT L st K S cb nb h
  obtain ⟨y, r, rfl, h1⟩ := popI_o h
  obtain ⟨x, r, rfl, h⟩ := popI_o h1
  refine TT.pure (fun {p l e R s m args below meth c H locs cells slots Qs ι ls} hx hb hown hts hK0 hl hL hst kk => ?_) (hT _ _ _ _ _ _ _ h)
  have hk := kk _ hl hL (okc (in32_of _) (okt (okt hst)))
  have e : conc ι (vI (ishr x y)) = .int (_) := congrArg Value.int (i32_of _)
  rw [List.map_cons, e] at hk
  exact lv_ishr hx hb hd hk
def oIushr (nx : Nat) : Op := fun T _ _ L st K S cb nb => popI st fun y st => popI st fun x st => T nx L (vI (iushr x y) :: st) K S cb nb
theorem s_iushr {M : Mth} {pc : Nat} (hd : decode M.2.1 pc = .ok (.iushr, 1)) : Snd M pc (oIushr (pc + 1)) := by
  intro d T Q hT L st K S cb nb h
  obtain ⟨y, r, rfl, h1⟩ := popI_o h
  obtain ⟨x, r, rfl, h⟩ := popI_o h1
  refine TT.pure (fun {p l e R s m args below meth c H locs cells slots Qs ι ls} hx hb hown hts hK0 hl hL hst kk => ?_) (hT _ _ _ _ _ _ _ h)
  have hk := kk _ hl hL (okc (in32_of _) (okt (okt hst)))
  have e : conc ι (vI (iushr x y)) = .int (_) := congrArg Value.int (i32_of _)
  rw [List.map_cons, e] at hk
  exact lv_iushr hx hb hd rfl hk
def oIdiv (nx : Nat) : Op := fun T _ _ L st K S cb nb => popI st fun y st => popI st fun x st => ¬ y = 0 ∧ T nx L (vI (idiv x y) :: st) K S cb nb
theorem s_idiv {M : Mth} {pc : Nat} (hd : decode M.2.1 pc = .ok (.idiv, 1)) : Snd M pc (oIdiv (pc + 1)) := by
  intro d T Q hT L st K S cb nb h
  obtain ⟨y, r, rfl, h1⟩ := popI_o h
  obtain ⟨x, r, rfl, hy, h⟩ := popI_o h1
  refine TT.pure (fun {p l e R s m args below meth c H locs cells slots Qs ι ls} hx hb hown hts hK0 hl hL hst kk => ?_) (hT _ _ _ _ _ _ _ h)
  have hk := kk _ hl hL (okc (in32_of _) (okt (okt hst)))
  have e : conc ι (vI (idiv x y)) = .int (_) := congrArg Value.int (i32_of _)
  rw [List.map_cons, e] at hk
  have hin : in32 y := okh hst
  exact lv_idiv hx hb hd (fun q => hy ((i32_eq hin in32_0).mp (q.trans i32_0.symm))) hk
def oIrem (nx : Nat) : Op := fun T _ _ L st K S cb nb => popI st fun y st => popI st fun x st => ¬ y = 0 ∧ T nx L (vI (irem x y) :: st) K S cb nb
theorem s_irem {M : Mth} {pc : Nat} (hd : decode M.2.1 pc = .ok (.irem, 1)) : Snd M pc (oIrem (pc + 1)) := by
  intro d T Q hT L st K S cb nb h
  obtain ⟨y, r, rfl, h1⟩ := popI_o h
  obtain ⟨x, r, rfl, hy, h⟩ := popI_o h1
  refine TT.pure (fun {p l e R s m args below meth c H locs cells slots Qs ι ls} hx hb hown hts hK0 hl hL hst kk => ?_) (hT _ _ _ _ _ _ _ h)
  have hk := kk _ hl hL (okc (in32_of _) (okt (okt hst)))
  have e : conc ι (vI (irem x y)) = .int (_) := congrArg Value.int (i32_of _)
  rw [List.map_cons, e] at hk
  have hin : in32 y := okh hst
  exact lv_irem hx hb hd (fun q => hy ((i32_eq hin in32_0).mp (q.trans i32_0.symm))) hk
def oIneg (nx : Nat) : Op := fun T _ _ L st K S cb nb => popI st fun x st => T nx L (vI (w32 (-x)) :: st) K S cb nb
theorem s_ineg {M : Mth} {pc : Nat} (hd : decode M.2.1 pc = .ok (.ineg, 1)) : Snd M pc (oIneg (pc + 1)) := by
  intro d T Q hT L st K S cb nb h
  obtain ⟨x, r, rfl, h⟩ := popI_o h
  refine TT.pure (fun {p l e R s m args below meth c H locs cells slots Qs ι ls} hx hb hown hts hK0 hl hL hst kk => ?_) (hT _ _ _ _ _ _ _ h)
  have hk := kk _ hl hL (okc (w32_in _) (okt hst))
  have e : conc ι (vI (w32 (-x))) = .int (-(i32 x)) := congrArg Value.int ((i32_w _).trans (Int32.ofInt_neg x))
  rw [List.map_cons, e] at hk
  exact lv_ineg hx hb hd hk
def oLadd (nx : Nat) : Op := fun T _ _ L st K S cb nb => popL st fun y st => popL st fun x st => T nx L (vL (w64 (x + y)) :: st) K S cb nb
theorem s_ladd {M : Mth} {pc : Nat} (hd : decode M.2.1 pc = .ok (.ladd, 1)) : Snd M pc (oLadd (pc + 1)) := by
  intro d T Q hT L st K S cb nb h
  obtain ⟨y, r, rfl, h1⟩ := popL_o h
  obtain ⟨x, r, rfl, h⟩ := popL_o h1
  refine TT.pure (fun {p l e R s m args below meth c H locs cells slots Qs ι ls} hx hb hown hts hK0 hl hL hst kk => ?_) (hT _ _ _ _ _ _ _ h)
  have hk := kk _ hl hL (okc (w64_in _) (okt (okt hst)))
  have e : conc ι (vL (w64 (x + y))) = .long (_) := congrArg Value.long ((i64_w _).trans (Int64.ofInt_add x y))
  rw [List.map_cons, e] at hk
  exact lv_ladd hx hb hd hk
def oLmul (nx : Nat) : Op := fun T _ _ L st K S cb nb => popL st fun y st => popL st fun x st => T nx L (vL (w64 (x * y)) :: st) K S cb nb
theorem s_lmul {M : Mth} {pc : Nat} (hd : decode M.2.1 pc = .ok (.lmul, 1)) : Snd M pc (oLmul (pc + 1)) := by
  intro d T Q hT L st K S cb nb h
  obtain ⟨y, r, rfl, h1⟩ := popL_o h
  obtain ⟨x, r, rfl, h⟩ := popL_o h1
  refine TT.pure (fun {p l e R s m args below meth c H locs cells slots Qs ι ls} hx hb hown hts hK0 hl hL hst kk => ?_) (hT _ _ _ _ _ _ _ h)
  have hk := kk _ hl hL (okc (w64_in _) (okt (okt hst)))
  have e : conc ι (vL (w64 (x * y))) = .long (_) := congrArg Value.long ((i64_w _).trans (Int64.ofInt_mul x y))
  rw [List.map_cons, e] at hk
  exact lv_lmul hx hb hd hk
def oLand (nx : Nat) : Op := fun T _ _ L st K S cb nb => popL st fun y st => popL st fun x st => T nx L (vL (land x y) :: st) K S cb nb
theorem s_land {M : Mth} {pc : Nat} (hd : decode M.2.1 pc = .ok (.land, 1)) : Snd M pc (oLand (pc + 1)) := by
  intro d T Q hT L st K S cb nb h
  obtain ⟨y, r, rfl, h1⟩ := popL_o h
  obtain ⟨x, r, rfl, h⟩ := popL_o h1
  refine TT.pure (fun {p l e R s m args below meth c H locs cells slots Qs ι ls} hx hb hown hts hK0 hl hL hst kk => ?_) (hT _ _ _ _ _ _ _ h)
  have hk := kk _ hl hL (okc (in64_of _) (okt (okt hst)))
  have e : conc ι (vL (land x y)) = .long (_) := congrArg Value.long (i64_of _)
  rw [List.map_cons, e] at hk
  exact lv_land hx hb hd hk
def oLor (nx : Nat) : Op := fun T _ _ L st K S cb nb => popL st fun y st => popL st fun x st => T nx L (vL (lor x y) :: st) K S cb nb
theorem s_lor {M : Mth} {pc : Nat} (hd : decode M.2.1 pc = .ok (.lor, 1)) : Snd M pc (oLor (pc + 1)) := by
  intro d T Q hT L st K S cb nb h
  obtain ⟨y, r, rfl, h1⟩ := popL_o h
  obtain ⟨x, r, rfl, h⟩ := popL_o h1
  refine TT.pure (fun {p l e R s m args below meth c H locs cells slots Qs ι ls} hx hb hown hts hK0 hl hL hst kk => ?_) (hT _ _ _ _ _ _ _ h)
  have hk := kk _ hl hL (okc (in64_of _) (okt (okt hst)))
  have e : conc ι (vL (lor x y)) = .long (_) := congrArg Value.long (i64_of _)
  rw [List.map_cons, e] at hk
  exact lv_lor hx hb hd hk
def oLxor (nx : Nat) : Op := fun T _ _ L st K S cb nb => popL st fun y st => popL st fun x st => T nx L (vL (lxor x y) :: st) K S cb nb
theorem s_lxor {M : Mth} {pc : Nat} (hd : decode M.2.1 pc = .ok (.lxor, 1)) : Snd M pc (oLxor (pc + 1)) := by
  intro d T Q hT L st K S cb nb h
  obtain ⟨y, r, rfl, h1⟩ := popL_o h
  obtain ⟨x, r, rfl, h⟩ := popL_o h1
  refine TT.pure (fun {p l e R s m args below meth c H locs cells slots Qs ι ls} hx hb hown hts hK0 hl hL hst kk => ?_) (hT _ _ _ _ _ _ _ h)
  have hk := kk _ hl hL (okc (in64_of _) (okt (okt hst)))
  have e : conc ι (vL (lxor x y)) = .long (_) := congrArg Value.long (i64_of _)
  rw [List.map_cons, e] at hk
  exact lv_lxor hx hb hd hk
def oLshl (nx : Nat) : Op := fun T _ _ L st K S cb nb => popI st fun y st => popL st fun x st => T nx L (vL (lshl x y) :: st) K S cb nb
theorem s_lshl {M : Mth} {pc : Nat} (hd : decode M.2.1 pc = .ok (.lshl, 1)) : Snd M pc (oLshl (pc + 1)) := by
  intro d T Q hT L st K S cb nb h
  obtain ⟨y, r, rfl, h1⟩ := popI_o h
  obtain ⟨x, r, rfl, h⟩ := popL_o h1
  refine TT.pure (fun {p l e R s m args below meth c H locs cells slots Qs ι ls} hx hb hown hts hK0 hl hL hst kk => ?_) (hT _ _ _ _ _ _ _ h)
  have hk := kk _ hl hL (okc (in64_of _) (okt (okt hst)))
  have e : conc ι (vL (lshl x y)) = .long (_) := congrArg Value.long (i64_of _)
  rw [List.map_cons, e] at hk
  exact lv_lshl hx hb hd rfl hk
def oLshr (nx : Nat) : Op := fun T _ _ L st K S cb nb => popI st fun y st => popL st fun x st => T nx L (vL (lshr x y) :: st) K S cb nb
theorem s_lshr {M : Mth} {pc : Nat} (hd : decode M.2.1 pc = .ok (.lshr, 1)) : Snd M pc (oLshr (pc + 1)) := by
  intro d T Q hT L st K S cb nb h
  obtain ⟨y, r, rfl, h1⟩ := popI_o h
  obtain ⟨x, r, rfl, h⟩ := popL_o h1
  refine TT.pure (fun {p l e R s m args below meth c H locs cells slots Qs ι ls} hx hb hown hts hK0 hl hL hst kk => ?_) (hT _ _ _ _ _ _ _ h)
  have hk := kk _ hl hL (okc (in64_of _) (okt (okt hst)))
  have e : conc ι (vL (lshr x y)) = .long (_) := congrArg Value.long (i64_of _)
  rw [List.map_cons, e] at hk
  exact lv_lshr hx hb hd rfl hk
def oLushr (nx : Nat) : Op := fun T _ _ L st K S cb nb => popI st fun y st => popL st fun x st => T nx L (vL (lushr x y) :: st) K S cb nb
theorem s_lushr {M : Mth} {pc : Nat} (hd : decode M.2.1 pc = .ok (.lushr, 1)) : Snd M pc (oLushr (pc + 1)) := by
  intro d T Q hT L st K S cb nb h
  obtain ⟨y, r, rfl, h1⟩ := popI_o h
  obtain ⟨x, r, rfl, h⟩ := popL_o h1
  refine TT.pure (fun {p l e R s m args below meth c H locs cells slots Qs ι ls} hx hb hown hts hK0 hl hL hst kk => ?_) (hT _ _ _ _ _ _ _ h)
  have hk := kk _ hl hL (okc (in64_of _) (okt (okt hst)))
  have e : conc ι (vL (lushr x y)) = .long (_) := congrArg Value.long (i64_of _)
  rw [List.map_cons, e] at hk
  exact lv_lushr hx hb hd rfl hk
def oLcmp (nx : Nat) : Op := fun T _ _ L st K S cb nb => popL st fun y st => popL st fun x st => T nx L (vI (lcmpv x y) :: st) K S cb nb
theorem s_lcmp {M : Mth} {pc : Nat} (hd : decode M.2.1 pc = .ok (.lcmp, 1)) : Snd M pc (oLcmp (pc + 1)) := by
  intro d T Q hT L st K S cb nb h
  obtain ⟨y, r, rfl, h1⟩ := popL_o h
  obtain ⟨x, r, rfl, h⟩ := popL_o h1
  refine TT.pure (fun {p l e R s m args below meth c H locs cells slots Qs ι ls} hx hb hown hts hK0 hl hL hst kk => ?_) (hT _ _ _ _ _ _ _ h)
  have hk := kk _ hl hL (okc (in32_of _) (okt (okt hst)))
  have e : conc ι (vI (lcmpv x y)) = .int (_) := congrArg Value.int (i32_of _)
  rw [List.map_cons, e] at hk
  exact W.lcmp hx hb hd hk
def oI2l (nx : Nat) : Op := fun T _ _ L st K S cb nb => popI st fun x st => T nx L (vL x :: st) K S cb nb
theorem s_i2l {M : Mth} {pc : Nat} (hd : decode M.2.1 pc = .ok (.i2l, 1)) : Snd M pc (oI2l (pc + 1)) := by
  intro d T Q hT L st K S cb nb h
  obtain ⟨x, r, rfl, h⟩ := popI_o h
  refine TT.pure (fun {p l e R s m args below meth c H locs cells slots Qs ι ls} hx hb hown hts hK0 hl hL hst kk => ?_) (hT _ _ _ _ _ _ _ h)
  have hin : in32 x := okh hst
  have hin' : in64 x := by unfold in32 at hin; unfold in64; omega
  have hk := kk _ hl hL (okc hin' (okt hst))
  refine lv_i2l (v := i64 x) hx hb hd ?_ hk
  apply Int64.toInt_inj.mp
  rw [Int32.toInt_toInt64, i32_ti hin, i64_ti hin']
def oL2i (nx : Nat) : Op := fun T _ _ L st K S cb nb => popL st fun x st => T nx L (vI (w32 x) :: st) K S cb nb
theorem s_l2i {M : Mth} {pc : Nat} (hd : decode M.2.1 pc = .ok (.l2i, 1)) : Snd M pc (oL2i (pc + 1)) := by
  intro d T Q hT L st K S cb nb h
  obtain ⟨x, r, rfl, h⟩ := popL_o h
  refine TT.pure (fun {p l e R s m args below meth c H locs cells slots Qs ι ls} hx hb hown hts hK0 hl hL hst kk => ?_) (hT _ _ _ _ _ _ _ h)
  have hk := kk _ hl hL (okc (w32_in _) (okt hst))
  refine lv_l2i (v := i32 (w32 x)) hx hb hd ?_ hk
  rw [i32_w]
  exact Int64.toInt32_ofInt
def oI2b (nx : Nat) : Op := fun T _ _ L st K S cb nb => popI st fun x st => T nx L (vI (i2bv x) :: st) K S cb nb
theorem s_i2b {M : Mth} {pc : Nat} (hd : decode M.2.1 pc = .ok (.i2b, 1)) : Snd M pc (oI2b (pc + 1)) := by
  intro d T Q hT L st K S cb nb h
  obtain ⟨x, r, rfl, h⟩ := popI_o h
  refine TT.pure (fun {p l e R s m args below meth c H locs cells slots Qs ι ls} hx hb hown hts hK0 hl hL hst kk => ?_) (hT _ _ _ _ _ _ _ h)
  have hk := kk _ hl hL (okc (in32_of _) (okt hst))
  exact lv_i2b hx hb hd (i32_of _).symm hk
def oI2s (nx : Nat) : Op := fun T _ _ L st K S cb nb => popI st fun x st => T nx L (vI (i2sv x) :: st) K S cb nb
theorem s_i2s {M : Mth} {pc : Nat} (hd : decode M.2.1 pc = .ok (.i2s, 1)) : Snd M pc (oI2s (pc + 1)) := by
  intro d T Q hT L st K S cb nb h
  obtain ⟨x, r, rfl, h⟩ := popI_o h
  refine TT.pure (fun {p l e R s m args below meth c H locs cells slots Qs ι ls} hx hb hown hts hK0 hl hL hst kk => ?_) (hT _ _ _ _ _ _ _ h)
  have hk := kk _ hl hL (okc (in32_of _) (okt hst))
  exact lv_i2s hx hb hd (i32_of _).symm hk
def oDup (nx : Nat) : Op := fun T _ _ L st K S cb nb => popS st fun v st => T nx L (v :: v :: st) K S cb nb
theorem s_dup {M : Mth} {pc : Nat} (hd : decode M.2.1 pc = .ok (.dup, 1)) : Snd M pc (oDup (pc + 1)) := by
  intro d T Q hT L st K S cb nb h
  obtain ⟨v, r, rfl, hc, h⟩ := popS_o h
  exact TT.pure (fun hx hb hown hts hK0 hl hL hst kk => lv_dup hx hb hd (hc _) (kk _ hl hL (okc (okh hst) hst))) (hT _ _ _ _ _ _ _ h)
def oPop (nx : Nat) : Op := fun T _ _ L st K S cb nb => popS st fun _ st => T nx L st K S cb nb
theorem s_pop {M : Mth} {pc : Nat} (hd : decode M.2.1 pc = .ok (.pop, 1)) : Snd M pc (oPop (pc + 1)) := by
  intro d T Q hT L st K S cb nb h
  obtain ⟨v, r, rfl, hc, h⟩ := popS_o h
  exact TT.pure (fun hx hb hown hts hK0 hl hL hst kk => lv_pop hx hb hd (hc _) (kk _ hl hL (okt hst))) (hT _ _ _ _ _ _ _ h)
def oDupx1 (nx : Nat) : Op := fun T _ _ L st K S cb nb => popS st fun a st => popS st fun b st => T nx L (a :: b :: a :: st) K S cb nb
theorem s_dupx1 {M : Mth} {pc : Nat} (hd : decode M.2.1 pc = .ok (.dup_x1, 1)) : Snd M pc (oDupx1 (pc + 1)) := by
  intro d T Q hT L st K S cb nb h
  obtain ⟨a, r, rfl, ha, h1⟩ := popS_o h
  obtain ⟨b, r, rfl, hb', h⟩ := popS_o h1
  exact TT.pure (fun hx hb hown hts hK0 hl hL hst kk => lv_dup_x1 hx hb hd (ha _) (hb' _) (kk _ hl hL (okc (okh hst) (okc (okh (okt hst)) (okc (okh hst) (okt (okt hst))))))) (hT _ _ _ _ _ _ _ h)
def oDupx2 (nx : Nat) : Op := fun T _ _ L st K S cb nb => popS st fun a st => popS st fun b st => popS st fun c st => T nx L (a :: b :: c :: a :: st) K S cb nb
theorem s_dupx2 {M : Mth} {pc : Nat} (hd : decode M.2.1 pc = .ok (.dup_x2, 1)) : Snd M pc (oDupx2 (pc + 1)) := by
  intro d T Q hT L st K S cb nb h
  obtain ⟨a, r, rfl, ha, h1⟩ := popS_o h
  obtain ⟨b, r, rfl, hb', h2⟩ := popS_o h1
  obtain ⟨c, r, rfl, hc', h⟩ := popS_o h2
  exact TT.pure (fun hx hb hown hts hK0 hl hL hst kk => lv_dup_x2 hx hb hd (ha _) (hb' _) (hc' _) (kk _ hl hL (okc (okh hst) (okc (okh (okt hst)) (okc (okh (okt (okt hst))) (okc (okh hst) (okt (okt (okt hst))))))))) (hT _ _ _ _ _ _ _ h)
def oDup2 (nx : Nat) : Op := fun T _ _ L st K S cb nb => popS st fun a st => popS st fun b st => T nx L (a :: b :: a :: b :: st) K S cb nb
theorem s_dup2 {M : Mth} {pc : Nat} (hd : decode M.2.1 pc = .ok (.dup2, 1)) : Snd M pc (oDup2 (pc + 1)) := by
  intro d T Q hT L st K S cb nb h
  obtain ⟨a, r, rfl, ha, h1⟩ := popS_o h
  obtain ⟨b, r, rfl, hb', h⟩ := popS_o h1
  exact TT.pure (fun hx hb hown hts hK0 hl hL hst kk => lv_dup2_11 hx hb hd (ha _) (hb' _) (kk _ hl hL (okc (okh hst) (okc (okh (okt hst)) hst)))) (hT _ _ _ _ _ _ _ h)
def oGoto (tgt : Nat) : Op := fun T _ _ L st K S cb nb => T tgt L st K S cb nb
theorem s_goto {M : Mth} {pc tgt : Nat} {off : Int} (hd : decode M.2.1 pc = .ok (.goto off, 3)) (ht : (pc : Int) + off = (tgt : Int)) : Snd M pc (oGoto tgt) := by
  intro d T Q hT L st K S cb nb h
  exact TT.pure (fun hx hb hown hts hK0 hl hL hst kk => lv_goto hx hb hd ht (kk _ hl hL hst)) (hT _ _ _ _ _ _ _ h)
def oIfEq (tgt nx : Nat) : Op := fun T _ _ L st K S cb nb => popI st fun x st => (x = 0 → T tgt L st K S cb nb) ∧ (¬ x = 0 → T nx L st K S cb nb)
theorem s_if_eq {M : Mth} {pc tgt : Nat} {off : Int} (hd : decode M.2.1 pc = .ok (.ifCond .eq off, 3)) (ht : (pc : Int) + off = (tgt : Int)) : Snd M pc (oIfEq tgt (pc + 3)) := by
  intro d T Q hT L st K S cb nb h
  obtain ⟨x, r, rfl, h⟩ := popI_o h
  refine TT.pure2 (b := x = 0) (pc1 := tgt) (pc2 := pc + 3) (st' := r) (fun hx hb hst k1 k2 => ?_) (fun q => hT _ _ _ _ _ _ _ (h.1 q)) (fun q => hT _ _ _ _ _ _ _ (h.2 q))
  have hx0 : in32 x := okh hst
  have e := (i32_eq hx0 in32_0)
  rw [i32_0] at e
  exact lv_if_eq hx hb hd ht (fun q => k1 (e.mp q) (okt hst)) (fun q => k2 (fun z => q (e.mpr z)) (okt hst))
def oIcEq (tgt nx : Nat) : Op := fun T _ _ L st K S cb nb => popI st fun y st => popI st fun x st => (x = y → T tgt L st K S cb nb) ∧ (¬ x = y → T nx L st K S cb nb)
theorem s_ic_eq {M : Mth} {pc tgt : Nat} {off : Int} (hd : decode M.2.1 pc = .ok (.if_icmp .eq off, 3)) (ht : (pc : Int) + off = (tgt : Int)) : Snd M pc (oIcEq tgt (pc + 3)) := by
  intro d T Q hT L st K S cb nb h
  obtain ⟨y, r, rfl, h1⟩ := popI_o h
  obtain ⟨x, r, rfl, h⟩ := popI_o h1
  refine TT.pure2 (b := x = y) (pc1 := tgt) (pc2 := pc + 3) (st' := r) (fun hx hb hst k1 k2 => ?_) (fun q => hT _ _ _ _ _ _ _ (h.1 q)) (fun q => hT _ _ _ _ _ _ _ (h.2 q))
  have hy0 : in32 y := okh hst
  have hx0 : in32 x := okh (okt hst)
  have e := (i32_eq hx0 hy0)
  exact lv_icmp_eq hx hb hd ht (fun q => k1 (e.mp q) (okt (okt hst))) (fun q => k2 (fun z => q (e.mpr z)) (okt (okt hst)))
def oIfNe (tgt nx : Nat) : Op := fun T _ _ L st K S cb nb => popI st fun x st => (¬ x = 0 → T tgt L st K S cb nb) ∧ (x = 0 → T nx L st K S cb nb)
theorem s_if_ne {M : Mth} {pc tgt : Nat} {off : Int} (hd : decode M.2.1 pc = .ok (.ifCond .ne off, 3)) (ht : (pc : Int) + off = (tgt : Int)) : Snd M pc (oIfNe tgt (pc + 3)) := by
  intro d T Q hT L st K S cb nb h
  obtain ⟨x, r, rfl, h⟩ := popI_o h
  refine TT.pure2 (b := ¬ x = 0) (pc1 := tgt) (pc2 := pc + 3) (st' := r) (fun hx hb hst k1 k2 => ?_) (fun q => hT _ _ _ _ _ _ _ (h.1 q)) (fun q => hT _ _ _ _ _ _ _ (h.2 (Classical.not_not.mp q)))
  have hx0 : in32 x := okh hst
  have e := (i32_eq hx0 in32_0)
  rw [i32_0] at e
  exact lv_if_ne hx hb hd ht (fun q => k1 (fun z => q (e.mpr z)) (okt hst)) (fun q => k2 (fun z => z (e.mp q)) (okt hst))
def oIcNe (tgt nx : Nat) : Op := fun T _ _ L st K S cb nb => popI st fun y st => popI st fun x st => (¬ x = y → T tgt L st K S cb nb) ∧ (x = y → T nx L st K S cb nb)
theorem s_ic_ne {M : Mth} {pc tgt : Nat} {off : Int} (hd : decode M.2.1 pc = .ok (.if_icmp .ne off, 3)) (ht : (pc : Int) + off = (tgt : Int)) : Snd M pc (oIcNe tgt (pc + 3)) := by
  intro d T Q hT L st K S cb nb h
  obtain ⟨y, r, rfl, h1⟩ := popI_o h
  obtain ⟨x, r, rfl, h⟩ := popI_o h1
  refine TT.pure2 (b := ¬ x = y) (pc1 := tgt) (pc2 := pc + 3) (st' := r) (fun hx hb hst k1 k2 => ?_) (fun q => hT _ _ _ _ _ _ _ (h.1 q)) (fun q => hT _ _ _ _ _ _ _ (h.2 (Classical.not_not.mp q)))
  have hy0 : in32 y := okh hst
  have hx0 : in32 x := okh (okt hst)
  have e := (i32_eq hx0 hy0)
  exact lv_icmp_ne hx hb hd ht (fun q => k1 (fun z => q (e.mpr z)) (okt (okt hst))) (fun q => k2 (fun z => z (e.mp q)) (okt (okt hst)))
def oIfLt (tgt nx : Nat) : Op := fun T _ _ L st K S cb nb => popI st fun x st => (x < 0 → T tgt L st K S cb nb) ∧ (¬ x < 0 → T nx L st K S cb nb)
theorem s_if_lt {M : Mth} {pc tgt : Nat} {off : Int} (hd : decode M.2.1 pc = .ok (.ifCond .lt off, 3)) (ht : (pc : Int) + off = (tgt : Int)) : Snd M pc (oIfLt tgt (pc + 3)) := by
  intro d T Q hT L st K S cb nb h
  obtain ⟨x, r, rfl, h⟩ := popI_o h
  refine TT.pure2 (b := x < 0) (pc1 := tgt) (pc2 := pc + 3) (st' := r) (fun hx hb hst k1 k2 => ?_) (fun q => hT _ _ _ _ _ _ _ (h.1 q)) (fun q => hT _ _ _ _ _ _ _ (h.2 q))
  have hx0 : in32 x := okh hst
  have e := (i32_lt hx0 in32_0)
  rw [i32_0] at e
  exact lv_if_lt hx hb hd ht (fun q => k1 (e.mp q) (okt hst)) (fun q => k2 (fun z => q (e.mpr z)) (okt hst))
def oIcLt (tgt nx : Nat) : Op := fun T _ _ L st K S cb nb => popI st fun y st => popI st fun x st => (x < y → T tgt L st K S cb nb) ∧ (¬ x < y → T nx L st K S cb nb)
theorem s_ic_lt {M : Mth} {pc tgt : Nat} {off : Int} (hd : decode M.2.1 pc = .ok (.if_icmp .lt off, 3)) (ht : (pc : Int) + off = (tgt : Int)) : Snd M pc (oIcLt tgt (pc + 3)) := by
  intro d T Q hT L st K S cb nb h
  obtain ⟨y, r, rfl, h1⟩ := popI_o h
  obtain ⟨x, r, rfl, h⟩ := popI_o h1
  refine TT.pure2 (b := x < y) (pc1 := tgt) (pc2 := pc + 3) (st' := r) (fun hx hb hst k1 k2 => ?_) (fun q => hT _ _ _ _ _ _ _ (h.1 q)) (fun q => hT _ _ _ _ _ _ _ (h.2 q))
  have hy0 : in32 y := okh hst
  have hx0 : in32 x := okh (okt hst)
  have e := (i32_lt hx0 hy0)
  exact lv_icmp_lt hx hb hd ht (fun q => k1 (e.mp q) (okt (okt hst))) (fun q => k2 (fun z => q (e.mpr z)) (okt (okt hst)))
def oIfGe (tgt nx : Nat) : Op := fun T _ _ L st K S cb nb => popI st fun x st => (0 ≤ x → T tgt L st K S cb nb) ∧ (¬ 0 ≤ x → T nx L st K S cb nb)
theorem s_if_ge {M : Mth} {pc tgt : Nat} {off : Int} (hd : decode M.2.1 pc = .ok (.ifCond .ge off, 3)) (ht : (pc : Int) + off = (tgt : Int)) : Snd M pc (oIfGe tgt (pc + 3)) := by
  intro d T Q hT L st K S cb nb h
  obtain ⟨x, r, rfl, h⟩ := popI_o h
  refine TT.pure2 (b := 0 ≤ x) (pc1 := tgt) (pc2 := pc + 3) (st' := r) (fun hx hb hst k1 k2 => ?_) (fun q => hT _ _ _ _ _ _ _ (h.1 q)) (fun q => hT _ _ _ _ _ _ _ (h.2 q))
  have hx0 : in32 x := okh hst
  have e := (i32_le in32_0 hx0)
  rw [i32_0] at e
  exact lv_if_ge hx hb hd ht (fun q => k1 (e.mp q) (okt hst)) (fun q => k2 (fun z => q (e.mpr z)) (okt hst))
def oIcGe (tgt nx : Nat) : Op := fun T _ _ L st K S cb nb => popI st fun y st => popI st fun x st => (y ≤ x → T tgt L st K S cb nb) ∧ (¬ y ≤ x → T nx L st K S cb nb)
theorem s_ic_ge {M : Mth} {pc tgt : Nat} {off : Int} (hd : decode M.2.1 pc = .ok (.if_icmp .ge off, 3)) (ht : (pc : Int) + off = (tgt : Int)) : Snd M pc (oIcGe tgt (pc + 3)) := by
  intro d T Q hT L st K S cb nb h
  obtain ⟨y, r, rfl, h1⟩ := popI_o h
  obtain ⟨x, r, rfl, h⟩ := popI_o h1
  refine TT.pure2 (b := y ≤ x) (pc1 := tgt) (pc2 := pc + 3) (st' := r) (fun hx hb hst k1 k2 => ?_) (fun q => hT _ _ _ _ _ _ _ (h.1 q)) (fun q => hT _ _ _ _ _ _ _ (h.2 q))
  have hy0 : in32 y := okh hst
  have hx0 : in32 x := okh (okt hst)
  have e := (i32_le hy0 hx0)
  exact lv_icmp_ge hx hb hd ht (fun q => k1 (e.mp q) (okt (okt hst))) (fun q => k2 (fun z => q (e.mpr z)) (okt (okt hst)))
def oIfGt (tgt nx : Nat) : Op := fun T _ _ L st K S cb nb => popI st fun x st => (0 < x → T tgt L st K S cb nb) ∧ (¬ 0 < x → T nx L st K S cb nb)
theorem s_if_gt {M : Mth} {pc tgt : Nat} {off : Int} (hd : decode M.2.1 pc = .ok (.ifCond .gt off, 3)) (ht : (pc : Int) + off = (tgt : Int)) : Snd M pc (oIfGt tgt (pc + 3)) := by
  intro d T Q hT L st K S cb nb h
  obtain ⟨x, r, rfl, h⟩ := popI_o h
  refine TT.pure2 (b := 0 < x) (pc1 := tgt) (pc2 := pc + 3) (st' := r) (fun hx hb hst k1 k2 => ?_) (fun q => hT _ _ _ _ _ _ _ (h.1 q)) (fun q => hT _ _ _ _ _ _ _ (h.2 q))
  have hx0 : in32 x := okh hst
  have e := (i32_lt in32_0 hx0)
  rw [i32_0] at e
  exact lv_if_gt hx hb hd ht (fun q => k1 (e.mp q) (okt hst)) (fun q => k2 (fun z => q (e.mpr z)) (okt hst))
def oIcGt (tgt nx : Nat) : Op := fun T _ _ L st K S cb nb => popI st fun y st => popI st fun x st => (y < x → T tgt L st K S cb nb) ∧ (¬ y < x → T nx L st K S cb nb)
theorem s_ic_gt {M : Mth} {pc tgt : Nat} {off : Int} (hd : decode M.2.1 pc = .ok (.if_icmp .gt off, 3)) (ht : (pc : Int) + off = (tgt : Int)) : Snd M pc (oIcGt tgt (pc + 3)) := by
  intro d T Q hT L st K S cb nb h
  obtain ⟨y, r, rfl, h1⟩ := popI_o h
  obtain ⟨x, r, rfl, h⟩ := popI_o h1
  refine TT.pure2 (b := y < x) (pc1 := tgt) (pc2 := pc + 3) (st' := r) (fun hx hb hst k1 k2 => ?_) (fun q => hT _ _ _ _ _ _ _ (h.1 q)) (fun q => hT _ _ _ _ _ _ _ (h.2 q))
  have hy0 : in32 y := okh hst
  have hx0 : in32 x := okh (okt hst)
  have e := (i32_lt hy0 hx0)
  exact lv_icmp_gt hx hb hd ht (fun q => k1 (e.mp q) (okt (okt hst))) (fun q => k2 (fun z => q (e.mpr z)) (okt (okt hst)))
def oIfLe (tgt nx : Nat) : Op := fun T _ _ L st K S cb nb => popI st fun x st => (x ≤ 0 → T tgt L st K S cb nb) ∧ (¬ x ≤ 0 → T nx L st K S cb nb)
theorem s_if_le {M : Mth} {pc tgt : Nat} {off : Int} (hd : decode M.2.1 pc = .ok (.ifCond .le off, 3)) (ht : (pc : Int) + off = (tgt : Int)) : Snd M pc (oIfLe tgt (pc + 3)) := by
  intro d T Q hT L st K S cb nb h
  obtain ⟨x, r, rfl, h⟩ := popI_o h
  refine TT.pure2 (b := x ≤ 0) (pc1 := tgt) (pc2 := pc + 3) (st' := r) (fun hx hb hst k1 k2 => ?_) (fun q => hT _ _ _ _ _ _ _ (h.1 q)) (fun q => hT _ _ _ _ _ _ _ (h.2 q))
  have hx0 : in32 x := okh hst
  have e := (i32_le hx0 in32_0)
  rw [i32_0] at e
  exact lv_if_le hx hb hd ht (fun q => k1 (e.mp q) (okt hst)) (fun q => k2 (fun z => q (e.mpr z)) (okt hst))
def oIcLe (tgt nx : Nat) : Op := fun T _ _ L st K S cb nb => popI st fun y st => popI st fun x st => (x ≤ y → T tgt L st K S cb nb) ∧ (¬ x ≤ y → T nx L st K S cb nb)
theorem s_ic_le {M : Mth} {pc tgt : Nat} {off : Int} (hd : decode M.2.1 pc = .ok (.if_icmp .le off, 3)) (ht : (pc : Int) + off = (tgt : Int)) : Snd M pc (oIcLe tgt (pc + 3)) := by
  intro d T Q hT L st K S cb nb h
  obtain ⟨y, r, rfl, h1⟩ := popI_o h
  obtain ⟨x, r, rfl, h⟩ := popI_o h1
  refine TT.pure2 (b := x ≤ y) (pc1 := tgt) (pc2 := pc + 3) (st' := r) (fun hx hb hst k1 k2 => ?_) (fun q => hT _ _ _ _ _ _ _ (h.1 q)) (fun q => hT _ _ _ _ _ _ _ (h.2 q))
  have hy0 : in32 y := okh hst
  have hx0 : in32 x := okh (okt hst)
  have e := (i32_le hx0 hy0)
  exact lv_icmp_le hx hb hd ht (fun q => k1 (e.mp q) (okt (okt hst))) (fun q => k2 (fun z => q (e.mpr z)) (okt (okt hst)))
def oIfnull (tgt nx : Nat) : Op := fun T _ _ L st K S cb nb => popR st fun x st => (x = 0 → T tgt L st K S cb nb) ∧ (¬ x = 0 → T nx L st K S cb nb)
theorem s_ifnull {M : Mth} {pc tgt : Nat} {off : Int} (hd : decode M.2.1 pc = .ok (.ifnull off, 3)) (ht : (pc : Int) + off = (tgt : Int)) : Snd M pc (oIfnull tgt (pc + 3)) := by
  intro d T Q hT L st K S cb nb h
  obtain ⟨x, r, rfl, h⟩ := popR_o h
  refine TT.pure2 (b := x = 0) (pc1 := tgt) (pc2 := pc + 3) (st' := r) (fun hx hb hst k1 k2 => ?_) (fun q => hT _ _ _ _ _ _ _ (h.1 q)) (fun q => hT _ _ _ _ _ _ _ (h.2 q))
  rw [List.map_cons, conc_R]
  by_cases e0 : x = 0
  · rw [e0, cR_0]
    exact lv_ifnullN hx hb hd ht (k1 e0 (okt hst))
  · rw [cR_n e0]
    exact lv_ifnull hx hb hd (k2 e0 (okt hst))
def oIfnonnull (tgt nx : Nat) : Op := fun T _ _ L st K S cb nb => popR st fun x st => (¬ x = 0 → T tgt L st K S cb nb) ∧ (x = 0 → T nx L st K S cb nb)
theorem s_ifnonnull {M : Mth} {pc tgt : Nat} {off : Int} (hd : decode M.2.1 pc = .ok (.ifnonnull off, 3)) (ht : (pc : Int) + off = (tgt : Int)) : Snd M pc (oIfnonnull tgt (pc + 3)) := by
  intro d T Q hT L st K S cb nb h
  obtain ⟨x, r, rfl, h⟩ := popR_o h
  refine TT.pure2 (b := ¬ x = 0) (pc1 := tgt) (pc2 := pc + 3) (st' := r) (fun hx hb hst k1 k2 => ?_) (fun q => hT _ _ _ _ _ _ _ (h.1 q)) (fun q => hT _ _ _ _ _ _ _ (h.2 (Classical.not_not.mp q)))
  rw [List.map_cons, conc_R]
  by_cases e0 : x = 0
  · rw [e0, cR_0]
    exact lv_ifnonnullN hx hb hd (k2 (fun q => q e0) (okt hst))
  · rw [cR_n e0]
    exact lv_ifnonnull hx hb hd ht (k1 e0 (okt hst))
/-- a switch: its targets from lo on -/
def sw (x : Int) : Int → List Nat → (Nat → Prop) → Prop
  | _, [], _ => True
  | k, t :: ts, f => (x = k → f t) ∧ sw x (k + 1) ts f
theorem sw_n (x k : Int) (f : Nat → Prop) : sw x k [] f = True := rfl
theorem sw_c (x k : Int) (t : Nat) (ts : List Nat) (f : Nat → Prop) : sw x k (t :: ts) f = ((x = k → f t) ∧ sw x (k + 1) ts f) := rfl
theorem sw_at {x : Int} {f : Nat → Prop} : ∀ {ts : List Nat} {k : Int} {j : Nat} {t : Nat}, sw x k ts f → ts[j]? = some t → x = k + j → f t
  | [], _, _, _, _, h, _ => by simp at h
  | t :: ts, k, 0, u, h, hj, hx => by
    have e : t = u := by simpa using hj
    subst e
    exact h.1 (by simpa using hx)
  | t :: ts, k, j + 1, u, h, hj, hx => sw_at (ts := ts) (k := k + 1) (j := j) h.2 (by simpa using hj) (by rw [hx]; push_cast; omega)
def oSwitch (lo hi : Int) (ts : List Nat) (dflt : Nat) : Op := fun T _ _ L st K S cb nb => popI st fun x st => sw x lo ts (fun t => T t L st K S cb nb) ∧ (x < lo ∨ hi < x → T dflt L st K S cb nb)
theorem s_switch {M : Mth} {pc len tgt : Nat} {dflt lo hi : Int} {offs : Array Int} {ts : List Nat} (hd : decode M.2.1 pc = .ok (.tableswitch dflt lo hi offs, len)) (ht : (pc : Int) + dflt = (tgt : Int)) (hz : ∀ j : Nat, j < ts.length → ∃ off t, offs[j]? = some off ∧ ts[j]? = some t ∧ (pc : Int) + off = ((t : Nat) : Int)) (hl : hi - lo + 1 = (ts.length : Int)) : Snd M pc (oSwitch lo hi ts tgt) := by
  intro d T Q hT L st K S cb nb h
  obtain ⟨x, r, rfl, h1, h2⟩ := popI_o h
  intro p l e R s m args below meth c D AC ι0 K0 A mc ms H locs cells slots ι ls hC hX
  obtain ⟨g1, g2, g3, g4, g5, g6, g7, g8, g9, g10⟩ := id hX
  have hx0 : in32 x := okh g10
  have go : ∀ t, T t L r K S cb nb → W p l e R s m args below meth c H locs cells slots (MQ below (QC D AC ι0 K0 A Q) args s mc ms A) (F0 m t ls (r.map (conc ι))) := fun t ht => hT _ _ _ _ _ _ _ ht p l e R s m args below meth c D AC ι0 K0 A mc ms H locs cells slots ι ls hC ⟨g1, g2, g3, g4, g5, g6, g7, g8, g9, okt g10⟩
  rw [List.map_cons, conc_I]
  by_cases ho : x < lo ∨ hi < x
  · exact lv_tableOut hC.1 hC.2.1 hd (by rw [i32_ti hx0]; exact ho) ht (go _ (h2 ho))
  · have hj : (x - lo).toNat < ts.length := by omega
    obtain ⟨off, t, e1, e2, e3⟩ := hz _ hj
    refine lv_tableIn hC.1 hC.2.1 hd (by rw [i32_ti hx0]; omega) (by rw [i32_ti hx0]; omega) (by rw [i32_ti hx0]; exact e1) e3 (go t (sw_at (ts := ts) (f := fun t => T t L r K S cb nb) (x := x) (k := lo) (j := (x - lo).toNat) h1 e2 (by omega)))

/-! constructors: their contract, calls of them, arrays of arrays -/
/-- what the numbers are behind all constructors -/
def jIf (c k : Nat) : Int32 :=
  if 22 ≤ c ∧ c < 38 then (if k < 16 then (if k = c - 22 then 0 else 1000000) else 0)
  else if 43 ≤ c ∧ c < 143 then (if k = 0 then nI (c - 43) else if k = 3 then 2 else if k = 4 ∨ k = 5 ∨ k = 6 ∨ k = 11 then -1 else 0)
  else if 154 ≤ c ∧ c < 194 then (if k < 40 then (if k = c - 154 then 0 else 10000000) else 0)
  else if c = 150 then (if k = 2 then -1 else 0)
  else if c = 198 then (if k = 1 then 10 else if k = 2 then 1 else 0)
  else if c = 208 then (if k = 1 then -1 else if k = 2 then 210 else 0)
  else if c = 215 then (if k = 44 then 10 else if k = 45 then 1 else 0)
  else 0
def j_wq (P : j_R) (n N : Nat) : j_R := fun c k => if c = n then (if k < N then some (n + 1 + k) else none) else P c k
theorem j_wq_cell (P : j_R) {n c : Nat} (N : Nat) (h : c ≠ n) : j_wq P n N c = P c := by funext k; simp [j_wq, h]
theorem j_outer (c : ClassId) (N h0 : Nat) : ∀ i : Nat, Jvm.Free.Multi.outerC c N h0 i = arrV c N (fun j => va_rf (if j < i then some (h0 + 1 + j) else none))
  | 0 => by
    show ({ cls := c, slots := Array.replicate N .null, vm := .none } : Cell) = _
    rw [arrV_new]
    refine congrArg (arrV c N) (funext fun j => ?_)
    simp [va_rf]
  | i + 1 => by
    show (Jvm.Free.Multi.outerC c N h0 i).setSlot i (.ref (h0 + 1 + i)) = _
    rw [j_outer c N h0 i, arrV_store]
    refine congrArg (arrV c N) (funext fun j => ?_)
    by_cases e : j = i
    · subst e
      simp [updV, va_rf]
    · by_cases h : j < i
      · simp [updV, e, h, Nat.lt_succ_of_lt h]
      · simp [updV, e, h, show ¬ j < i + 1 by omega]
theorem j_Fx.keep {lo hi : Nat} {P P' : j_R} (h : j_Fx lo hi P) (hk : ∀ c, lo ≤ c → c < hi → P' c = P c) : j_Fx lo hi P' :=
  ⟨fun q hq h1 h2 => by rw [hk q.1 h1 h2]; exact h.1 q hq h1 h2, fun q hq h1 h2 i hi => by rw [hk q.1 h1 h2]; exact h.2 q hq h1 h2 i hi⟩
theorem j_Fx.join {lo mi hi : Nat} {P : j_R} (h : j_Fx lo mi P) (h' : j_Fx mi hi P) : j_Fx lo hi P :=
  ⟨fun q hq h1 h2 => (Nat.lt_or_ge q.1 mi).elim (fun h3 => h.1 q hq h1 h3) (fun h3 => h'.1 q hq h3 h2), fun q hq h1 h2 => (Nat.lt_or_ge q.1 mi).elim (fun h3 => h.2 q hq h1 h3) (fun h3 => h'.2 q hq h3 h2)⟩
theorem j_Fx.nil {lo hi : Nat} {P : j_R} (h1 : j_pfL.all (fun q => decide (q.1 < lo ∨ hi ≤ q.1)) = true) (h2 : j_paL.all (fun q => decide (q.1 < lo ∨ hi ≤ q.1)) = true) : j_Fx lo hi P :=
  ⟨fun q hq a b => by have := of_decide_eq_true (List.all_eq_true.mp h1 q hq); omega, fun q hq a b => by have := of_decide_eq_true (List.all_eq_true.mp h2 q hq); omega⟩
def j_PreC (g : j_G) (b n : Nat) (I : j_M) (P : j_R) (av : List Value) : Array Value → State → Prop := va_Pc av (fun U => (j_Rep g b n I P U.heap ∧ j_K g b U) ∧ j_AO U)
def j_CF (t n' : Nat) (I : j_M) (P : j_R) (I' : j_M) (P' : j_R) : Prop := j_Bl n' I' P' ∧ (∀ c, c < t → I' c = I c ∧ P' c = P c) ∧ j_Fx t n' P' ∧ ∀ c, t ≤ c → c < n' → I' c = jIf c
def j_PostC (g : j_G) (b t n' : Nat) (I : j_M) (P : j_R) : Array Value → State → Outcome → State → Prop := fun _ st oc u => ∃ (I' : j_M) (P' : j_R), oc = .returned none ∧ j_Rep g b n' I' P' u.heap ∧ va_F (fun q => b ≤ q) st u ∧ j_CF t n' I P I' P'
theorem j_PreC_blind {g : j_G} {b n : Nat} {I : j_M} {P : j_R} {av : List Value} : FrameBlind (j_PreC g b n I P av) := by
  intro a U f mk h
  obtain ⟨h1, ⟨h2, h3⟩, h4⟩ := h
  exact ⟨h1, ⟨h2, h3.same (U := U.calling f mk a) rfl⟩, h4.same (U := U.calling f mk a) rfl⟩
def j_MetC (l : Launch) (g : j_G) (b d : Nat) (y : MethodName) (cc : ByteArray) (nL t n n' mc ms : Nat) (av : List Value) : Prop := ∀ (I : j_M) (P : j_R), j_Bl t I P → Met l y (.code y cc nL none :: j_T) (j_rm d mc ms) (j_PreC g b n I P av) (j_PostC g b t n' I P) mc ms (fun q => b ≤ q)
theorem jIf_plain {c : Nat} (h : (c < 22 ∨ 38 ≤ c) ∧ (c < 43 ∨ 143 ≤ c) ∧ (c < 154 ∨ 194 ≤ c) ∧ c ≠ 150 ∧ c ≠ 198 ∧ c ≠ 208 ∧ c ≠ 215) : jIf c = jI0 c := by
  funext k
  unfold jIf jI0
  rw [if_neg (by omega), if_neg (by omega), if_neg (by omega), if_neg (by omega), if_neg (by omega), if_neg (by omega), if_neg (by omega), if_neg (by omega)]
section JW7
variable {p : Program} {l : Launch} {e : Env} {R : Room} {s : State} {m : MethodId} {args : Array Value} {below : List Frame} {meth : Method} {c : Code} {nL : Nat} {g : j_G} {b n cells slots d : Nat} {Q : State → Prop} {I : j_M} {P : j_R} {pc : Nat} {lv lv' : List (Option Value)} {st : List Value} {cc : ByteArray} {own : String} {rt : Option FieldType}
theorem j_mna (X : j_X p R s m args meth c g b d cc nL own rt) (hO : j_AO s) (hB : j_Bl n I P) {N K i : Nat} {N' K' : Int32} (h208 : n + N < 208) (hl : Cond.classLink own i "[[I" ∈ j_T) (hs : j_sh n = (2, 4, N)) (hr : ∀ j, j < N → j_sh (n + 1 + j) = (1, 0, K)) (hp : ¬ N' < 0) (hk : ¬ K' < 0) (hN : N'.toNatClampNeg = N) (hK : K'.toNatClampNeg = K) (hb1 : N * 4 ≤ 536870912) (hb2 : K * componentBytes .int ≤ 536870912) (hb3 : K ≤ 536870912) (hcells : cells + (1 + N) ≤ R.cells) (hslots : slots + (N + N * K) ≤ R.slots) (hd : decode cc pc = .ok (.multianewarray i 2, 4))
    (kk : j_W p l e R s m args below meth c nL g b (n + 1 + N) (cells + 1 + N) (slots + N + N * K) Q I (j_wq P n N) (pc + 4) lv (.ref (b + n) :: st)) : j_W p l e R s m args below meth c nL g b n cells slots Q I P pc lv (.int K' :: .int N' :: st) := by
  subst hN
  subst hK
  intro H locs ls h1 h2 h3 T hT Xs
  obtain ⟨vm₁, cA, comp, -, fA, fC, hOu, -, X', step⟩ := Xs.multianewarray2F (ty := .int) X.1.1 X.1.2.2.2.1 (X.1.2.2.2.2 _ hl) hO.2 (X.1.2.2.2.2 _ jqa_int) (g := F0 m pc ls (.int K' :: .int N' :: st)) rfl (by rw [X.1.2.1]; exact hd) rfl hp hk hb1 hb2 hb3 rfl rfl hcells hslots
  have r0 := (X.2.2.2.1.1.2 0 _ rfl).2
  have r4 := (X.2.2.2.1.1.2 4 _ rfl).2
  have hcA : cA = g.2.1 4 := Option.some.inj (fA.symm.trans r4)
  have hcm : comp = g.2.1 0 := Option.some.inj (fC.symm.trans r0)
  subst hcA
  subst hcm
  generalize hF : Jvm.Free.Multi.fill (T.setVm vm₁) (g.2.1 4) (g.2.1 0) N'.toNatClampNeg K'.toNatClampNeg (defaultValue .int) N'.toNatClampNeg = F at X' step
  have hTh : (T.setVm vm₁).heap = H := hT
  obtain ⟨f1, f2, -, -⟩ := Jvm.Free.Multi.fill_facts (T.setVm vm₁) (g.2.1 4) (g.2.1 0) N'.toNatClampNeg K'.toNatClampNeg (defaultValue .int) N'.toNatClampNeg
  rw [hF, hTh] at f1 f2
  have hold : ∀ x : Nat, x < H.size → F.heap[x]? = H[x]? := fun x hx => by
    have := Jvm.Free.Multi.fill_old (T.setVm vm₁) (g.2.1 4) (g.2.1 0) N'.toNatClampNeg K'.toNatClampNeg (defaultValue .int) (a := x) (by rw [hTh]; exact hx) N'.toNatClampNeg
    rw [hF, hTh] at this
    exact this
  have hrow : ∀ j : Nat, j < N'.toNatClampNeg → F.heap[H.size + 1 + j]? = some (Jvm.Free.Multi.innerC (g.2.1 0) K'.toNatClampNeg (defaultValue .int)) := fun j hj => by
    have := Jvm.Free.Multi.fill_inner (T.setVm vm₁) (g.2.1 4) (g.2.1 0) N'.toNatClampNeg K'.toNatClampNeg (defaultValue .int) N'.toNatClampNeg j hj
    rw [hF, hTh] at this
    exact this
  have hsz := h1.1
  have hRep : j_Rep g b (n + 1 + N'.toNatClampNeg) I (j_wq P n N'.toNatClampNeg) F.heap := by
    refine ⟨by rw [f1, hsz]; omega, fun q hq => (hold q (by omega)).trans (h1.2.1 q hq), fun k q hq => ?_⟩
    have hkl : k < n + 1 + N'.toNatClampNeg := by
      have := (List.getElem?_eq_some_iff.mp hq).1
      simpa [j_ws] using this
    rw [j_ws_at hkl] at hq
    cases hq
    by_cases hkn : k < n
    · have he : j_en g.2.1 b I (j_wq P n N'.toNatClampNeg) k = j_en g.2.1 b I P k := by
        unfold j_en j_fv
        rw [j_wq_cell P _ (by omega)]
      rw [he]
      exact (h1.2.2 k _ (j_ws_at hkn)).kept (hold _ (by show b + k < H.size; omega))
    · by_cases hk0 : k = n
      · subst hk0
        rw [j_en_ref hs]
        show F.heap[b + k]? = some (vp_cell _ _)
        rw [← hsz, f2, vp_cell_q, j_outer]
        refine congrArg some (congrArg (arrV _ _) (funext fun j => ?_))
        by_cases hj : j < N'.toNatClampNeg
        · simp [j_wq, hj, hsz, Nat.add_assoc]
        · simp [j_wq, hj]
      · obtain ⟨j, rfl⟩ : ∃ j, k = n + 1 + j := ⟨k - (n + 1), by omega⟩
        have hj : j < N'.toNatClampNeg := by omega
        rw [j_en_arr (hr j hj)]
        show F.heap[b + (n + 1 + j)]? = some (vp_cell _ _)
        rw [show b + (n + 1 + j) = H.size + 1 + j by omega, hrow j hj, vp_cell_i]
        show some ({ cls := _, slots := Array.replicate _ _, vm := .none } : Cell) = _
        rw [arrV_new]
        refine congrArg some (congrArg (arrV _ _) (funext fun x => ?_))
        rw [hB.1 _ (by omega)]
        simp [jI0, show n + 1 + j ≠ 208 by omega]
        rfl
  obtain ⟨t, a1, b1⟩ := kk F.heap locs ls hRep (j_S_grow (n := n) h2 (by rw [f1]; omega) (by rw [hsz]; omega) hold) h3 F rfl X'
  refine ⟨t, step t ?_, b1⟩
  rw [show T.heap.size = b + n by rw [hT]; exact hsz]
  exact a1
theorem j_objInit (X : j_X p R s m args meth c g b d cc nL own rt) {i a : Nat} (hl : Cond.methodLink own i objectInit ∈ j_T) (hq : 1 ≤ d) (hr : (st.map fun v => v.category).sum ≤ 8) (hd : decode cc pc = .ok (.invokespecial i, 3)) (kk : j_W p l e R s m args below meth c nL g b n cells slots Q I P (pc + 3) lv st) : j_W p l e R s m args below meth c nL g b n cells slots Q I P pc lv (.ref a :: st) := by
  intro H locs ls h1 h2 h3
  have hfr := X.2.2.2.2.1
  have hlo := X.2.2.2.2.2
  exact W.objInit X.1.1 X.1.2.1 X.1.2.2.2.1 (X.1.2.2.2.2 _ hl) (X.1.2.2.2.2 _ jqob_i) (X.1.2.2.2.2 _ jqob_c) rfl (by rw [X.1.2.2.1]; exact h3.1) rfl hd (by omega) (by have := lv_room (m := m) (pc := pc) (ls := ls) (rest := .ref a :: st) hr; omega) (kk H locs ls h1 h2 h3)
theorem j_runC {t n' mc ms : Nat} {st0 rest : List Value} {a : Array Value} {I0 : j_M} {P0 : j_R}
    (hr : ∀ (H : Heap) (locs : List Loc) (ls : Array Slot), j_Rep g b n I P H → va_S (fun q => b ≤ q) s.heap H locs → j_ls ls nL lv → va_Run p l e R s m args below meth c H locs cells slots mc ms (F0 m pc ls st0) rest (j_PostC g b t n' I0 P0 a) (fun q => b ≤ q))
    (kk : ∀ (I' : j_M) (P' : j_R), j_CF t n' I0 P0 I' P' → j_W p l e R s m args below meth c nL g b n' (cells + mc) (slots + ms) Q I' P' (pc + 3) lv rest) : j_W p l e R s m args below meth c nL g b n cells slots Q I P pc lv st0 := by
  intro H locs ls h1 h2 h3 T hT X
  obtain ⟨v2, st₀, u, T', L, h0, X', hL, e1, e2, ⟨I', P', hv, hp, ⟨hz, hk⟩, hcf⟩, stp⟩ := hr H locs ls h1 h2 h3 T hT X
  have hv2 : v2 = none := Outcome.returned.inj hv
  subst hv2
  rw [h0] at hz hk
  obtain ⟨t2, a1, b1⟩ := kk I' P' hcf T'.heap (locs ++ L) ls (by rw [e1]; exact hp)
    ⟨Nat.le_trans h2.1 (by rw [e1]; exact hz), fun q q1 q2 => by rw [e1, hk q (Nat.lt_of_lt_of_le q1 h2.1) q2]; exact h2.2.1 q q1 q2, fun q hq => by
      rcases List.mem_append.mp hq with h | h
      · exact h2.2.2 q h
      · exact hL q h⟩ h3 T' rfl X'
  exact ⟨t2, stp t2 a1, b1⟩
theorem j_callI (X : j_X p R s m args meth c g b d cc nL own rt) (hO : j_AO s) {i d2 n2 np c0 t n' mc ms : Nat} {y : MethodName} {cc2 : ByteArray} {As : List Value} (hB : j_Bl t I P) (hq : Cond.code y cc2 n2 none ∈ j_T ∧ Cond.instanceMethod y ∈ j_T ∧ Cond.initialized y.cls ∈ j_T) (hl : Cond.methodLink own i y ∈ j_T) (hy1 : y.name = "<init>")
    (hy : y.cls ≠ "java/lang/invoke/MethodHandle" ∧ y.cls ≠ "java/lang/invoke/VarHandle" ∧ (parseMethodDescriptor y.desc).map (fun d => d.parameters.length) = some np) (hnp : As.length = np) (hd2 : d2 + 1 ≤ d) (hn2 : n2 ≤ 21) (hrm : (st.map fun v => v.category).sum ≤ 8) (hf : cells + mc ≤ R.cells ∧ slots + ms ≤ R.slots)
    (hM : j_MetC l g b d2 y cc2 n2 t n n' mc ms (.ref (b + c0) :: As)) (hd : decode cc pc = .ok (.invokespecial i, 3)) {st0 : List Value} (h0 : st0 = As.reverse ++ .ref (b + c0) :: st) (kk : ∀ (I' : j_M) (P' : j_R), j_CF t n' I P I' P' → j_W p l e R s m args below meth c nL g b n' (cells + mc) (slots + ms) Q I' P' (pc + 3) lv st) : j_W p l e R s m args below meth c nL g b n cells slots Q I P pc lv st0 := by
  subst h0
  refine j_runC (a := (Value.ref (b + c0) :: As).toArray) (t := t) ?_ kk
  intro H locs ls h1 h2 h3
  have hfr := X.2.2.2.2.1
  have hlo := X.2.2.2.2.2
  exact va_runI X.1 (hM I P hB) (cwI np X.1.2.2.2.2 (j_good hq.1) rfl rfl rfl (X.1.2.2.2.2 _ hq.2.2) (X.1.2.2.2.2 _ hl) (X.1.2.2.2.2 _ hq.2.1) hy1 hy ⟨by show d2 + 1 ≤ _; omega, by show 8 + (n2 + 11) + 40 * d2 ≤ _; omega⟩) ⟨j_PreC_blind, fun U hU hW => ⟨rfl, ⟨by rw [hU]; exact h1, X.2.2.2.1.warm hW⟩, hO.warm hW⟩⟩ rfl hnp h3.1 rfl (lv_room hrm) hd hf
theorem j_callIN (X : j_X p R s m args meth c g b d cc nL own rt) (hO : j_AO s) {i d2 n2 np c0 t n' mc ms : Nat} {y : MethodName} {cc2 : ByteArray} {As : List Value} (hB : j_Bl t I P) (hq : Cond.code y cc2 n2 none ∈ j_T ∧ Cond.instanceMethod y ∈ j_T ∧ Cond.initialized y.cls ∈ j_T) (hl : (own, i, y) ∈ j_nest) (hy1 : y.name = "<init>")
    (hy : y.cls ≠ "java/lang/invoke/MethodHandle" ∧ y.cls ≠ "java/lang/invoke/VarHandle" ∧ (parseMethodDescriptor y.desc).map (fun d => d.parameters.length) = some np) (hnp : As.length = np) (hd2 : d2 + 1 ≤ d) (hn2 : n2 ≤ 21) (hrm : (st.map fun v => v.category).sum ≤ 8) (hf : cells + mc ≤ R.cells ∧ slots + ms ≤ R.slots)
    (hM : j_MetC l g b d2 y cc2 n2 t n n' mc ms (.ref (b + c0) :: As)) (hd : decode cc pc = .ok (.invokespecial i, 3)) {st0 : List Value} (h0 : st0 = As.reverse ++ .ref (b + c0) :: st) (kk : ∀ (I' : j_M) (P' : j_R), j_CF t n' I P I' P' → j_W p l e R s m args below meth c nL g b n' (cells + mc) (slots + ms) Q I' P' (pc + 3) lv st) : j_W p l e R s m args below meth c nL g b n cells slots Q I P pc lv st0 := by
  subst h0
  refine j_runC (a := (Value.ref (b + c0) :: As).toArray) (t := t) ?_ kk
  intro H locs ls h1 h2 h3
  have hfr := X.2.2.2.2.1
  have hlo := X.2.2.2.2.2
  exact va_runIN X.1 (hM I P hB) ⟨va_cnB (host := "PleasureGarden") np X.1.2.2.2.2 (j_good hq.1) rfl rfl rfl (X.2.2.2.1.2.1 (own, i, y) hl) (X.1.2.2.2.2 _ hq.2.2) hy ⟨by show d2 + 1 ≤ _; omega, by show 8 + (n2 + 11) + 40 * d2 ≤ _; omega⟩, hy1, X.1.2.2.2.2 _ hq.2.1⟩ ⟨j_PreC_blind, fun U hU hW => ⟨rfl, ⟨by rw [hU]; exact h1, X.2.2.2.1.warm hW⟩, hO.warm hW⟩⟩ rfl hnp h3.1 rfl (lv_room hrm) hd hf
theorem j_enterC {y : MethodName} {cc : ByteArray} {nL d mc ms t n n' : Nat} {av : List Value} (hy : plainFor y = true) (hlen : (lg_sl av).length ≤ nL) (lv : List (Option Value)) (hlv : j_av nL av = lv)
    (body : ∀ (I : j_M) (P : j_R), j_Bl t I P → ∀ (p : Program) (e : Env) (R : Room) (s : State) (m : MethodId) (args : Array Value) (below : List Frame) (meth : Method) (c : Code), j_X p R s m args meth c g b d cc nL y.cls none → j_AO s → meth.name = y.name → R.cells = mc → R.slots = ms → j_W p l e R s m args below meth c nL g b n 0 0 (MQ below (j_PostC g b t n' I P) args s mc ms (fun q => b ≤ q)) I P 0 lv []) : j_MetC l g b d y cc nL t n n' mc ms av := by
  intro I P hB
  refine va_MetF (cc := cc) (maxL := nL) (ret := none) hy rfl ?_
  intro p e s m args below meth c s₁ B hml hv
  obtain ⟨rfl, ⟨hR, hK⟩, hO⟩ := hv
  have hts := atoms_spec (ws := .code y cc nL none :: j_T) B.pre
  have hown : s.vm.findClass y.cls = some m.cls := findClass_of_methodNamed B.named
  have hl := lv_entry av (n := nL) hlen
  rw [lg_entry_eq]
  refine body I P hB p e _ s m av.toArray below meth c ⟨⟨B.exec, B.bytes, hml, hown, fun w hw => hts w (List.mem_cons_of_mem _ hw)⟩, B.notSynchronized, B.returns, hK, Nat.le_refl _, Nat.le_refl _⟩ hO (name_of_methodNamed B.named B.method).1 rfl rfl s.heap [] _ hR va_S.rf ?_
  refine ⟨hl.1, hl.2.1, fun i v hi => ?_⟩
  rw [← hlv] at hi
  unfold j_av at hi
  by_cases hk : i < (av.flatMap (fun v => if v.category = 2 then [some v, none] else [some v])).length
  · rw [List.getElem?_append_left hk] at hi
    have := j_av_at av i 0 v hi
    rw [Nat.zero_add] at this
    exact hl.2.2 (i, v) this
  · rw [List.getElem?_append_right (by omega)] at hi
    have h9 := List.eq_of_mem_replicate (List.mem_of_getElem? hi)
    cases h9
theorem j_vretC (X : j_X p R s m args meth c g b d cc nL own none) {t n' : Nat} {I0 : j_M} {P0 : j_R} (hn : n = n') (h : j_CF t n' I0 P0 I P) (hd : decode cc pc = .ok (.return_, 1)) : j_W p l e R s m args below meth c nL g b n cells slots (MQ below (j_PostC g b t n' I0 P0) args s cells slots (fun q => b ≤ q)) I P pc lv [] := by
  subst hn
  intro H locs ls h1 h2 h3
  have hlocks := X.2.1
  exact W.vret X.1.1 X.1.2.1 X.2.2.1 (fun u hu hW => ⟨I, P, rfl, by rw [hu]; exact h1, h2.F hu, h⟩) h2.2.2 hd
end JW7

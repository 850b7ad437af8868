/-! the pure text's words, and their rows: naming, calls that may fail, loops by fuel, switches -/
def j_let {α β : Type} (x : α) (f : α → β) : β := f x
def j_bd {α β : Type} (o : Option (α × j_M)) (k : α → j_M → Option β) : Option β := match o with
  | none => none
  | some q => k q.1 q.2
def j_it {σ α : Type} (body : (σ → Option α) → σ → Option α) : Nat → σ → Option α
  | 0, _ => none
  | n + 1, s => body (j_it body n) s
theorem j_it_succ {σ α : Type} (body : (σ → Option α) → σ → Option α) (n : Nat) (s : σ) : j_it body (n + 1) s = body (j_it body n) s := rfl
theorem j_it_zero {σ α : Type} (body : (σ → Option α) → σ → Option α) (s : σ) : j_it body 0 s = none := rfl
theorem j_loop {σ α : Type} {body : (σ → Option α) → σ → Option α} {G : σ → α → Prop} (hs : ∀ rec : σ → Option α, (∀ s r, rec s = some r → G s r) → ∀ s r, body rec s = some r → G s r) : ∀ (n : Nat) (s : σ) (r : α), j_it body n s = some r → G s r
  | 0, _, _, h => by cases h
  | n + 1, s, r, h => hs (j_it body n) (j_loop hs n) s r h
theorem j_bd_some {α β : Type} {o : Option (α × j_M)} {k : α → j_M → Option β} {r : β} (h : j_bd o k = some r) : ∃ v I1, o = some (v, I1) ∧ k v I1 = some r := by
  cases o with
  | none => cases h
  | some q => exact ⟨q.1, q.2, rfl, h⟩
theorem j_ite {α : Type} {c : Prop} [Decidable c] {A B : Option α} {r : α} {G : Prop} (h : (if c then A else B) = some r) (kt : c → A = some r → G) (kf : ¬ c → B = some r → G) : G := by
  by_cases hc : c
  · rw [if_pos hc] at h; exact kt hc h
  · rw [if_neg hc] at h; exact kf hc h
theorem j_guard {α : Type} {c : Prop} [Decidable c] {A : Option α} {r : α} {G : Prop} (h : (if c then A else none) = some r) (kt : c → A = some r → G) : G := j_ite h kt (fun _ h => by cases h)
theorem j_lt {c N n : Nat} (h : Nat.ble (c + 1) N = true) (hn : N ≤ n) : c < n := Nat.lt_of_lt_of_le (Nat.le_of_ble_eq_true h) hn
theorem j_all0 {x : Int32} : ∀ k ∈ ([] : List Int32), ¬ x = k := fun _ h => by cases h
theorem j_allc {x k : Int32} {ks : List Int32} (h : ¬ x = k) (hs : ∀ k ∈ ks, ¬ x = k) : ∀ q ∈ k :: ks, ¬ x = q := fun q hq => by
  rcases List.mem_cons.mp hq with rfl | h1
  · exact h
  · exact hs q h1
theorem j_lookDef {x : Int32} {d : Int} : ∀ (ps : List (Int × Int)), (∀ q ∈ ps, ¬ x.toInt = q.1) → Op.lookupswitch.offset ps d x.toInt = d
  | [], _ => rfl
  | (a, o) :: r, h => by
    rw [Op.lookupswitch.offset_cons, if_neg (fun e => h _ List.mem_cons_self (by simpa using e.symm))]
    exact j_lookDef r (fun q hq => h q (List.mem_cons_of_mem _ hq))
section JW3
variable {p : Program} {l : Launch} {e : Env} {R : Room} {s : State} {m : MethodId} {args : Array Value} {below : List Frame} {meth : Method} {c : Code} {nL : Nat} {g : j_G} {b n cells slots d : Nat} {Q : State → Prop} {I : j_M} {P : j_R} {pc : Nat} {lv lv' : List (Option Value)} {st : List Value} {cc : ByteArray} {own : String} {ret : Option FieldType}
theorem j_mem {α : Type} {f : j_M → Option α} {r : α} (h : j_let I f = some r) (k : ∀ I1 : j_M, f I1 = some r → j_W p l e R s m args below meth c nL g b n cells slots Q I1 P pc lv st) : j_W p l e R s m args below meth c nL g b n cells slots Q I P pc lv st := k I h
theorem j_nm {α : Type} {x : Int32} {f : Int32 → Option α} {r : α} (h : j_let x f = some r) (k : ∀ y : Int32, f y = some r → j_W p l e R s m args below meth c nL g b n cells slots Q I P pc lv (.int y :: st)) : j_W p l e R s m args below meth c nL g b n cells slots Q I P pc lv (.int x :: st) := k x h
theorem j_nml {α : Type} {x : Int64} {f : Int64 → Option α} {r : α} (h : j_let x f = some r) (k : ∀ y : Int64, f y = some r → j_W p l e R s m args below meth c nL g b n cells slots Q I P pc lv (.long y :: st)) : j_W p l e R s m args below meth c nL g b n cells slots Q I P pc lv (.long x :: st) := k x h
theorem j_callVi (X : j_X p R s m args meth c g b d cc nL own ret) {C : String} {i d2 n2 ci N np c0 : Nat} {y : MethodName} {cc2 : ByteArray} {r2 : Option FieldType} {T : u_T} {As : List Value} {α : Type} {fc : Option (Int32 × j_M)} {k : Int32 → j_M → Option α} {r : α} (h : j_bd fc k = some r) (hC : j_cl[ci]? = some (C, T, N)) (hs : j_sh c0 = (0, ci, N)) (hc : c0 < n) (hq : Cond.code y cc2 n2 r2 ∈ j_T ∧ Cond.instanceMethod y ∈ j_T ∧ Cond.selects C y y ∈ j_T ∧ Cond.initialized C ∈ j_T) (hl : Cond.methodLink own i y ∈ j_T)
    (hy : y.cls = C ∧ y.cls ≠ "java/lang/invoke/MethodHandle" ∧ y.cls ≠ "java/lang/invoke/VarHandle" ∧ (parseMethodDescriptor y.desc).map (fun d => d.parameters.length) = some np) (hnp : As.length = np) (hd2 : d2 + 1 ≤ d) (hn2 : n2 ≤ 21) (hrm : (st.map fun v => v.category).sum ≤ 8) (hf : cells ≤ R.cells ∧ slots ≤ R.slots)
    (hM : ∀ (v : Int32) (I1 : j_M), fc = some (v, I1) → j_Met l g b n P d2 y cc2 n2 r2 (.ref (b + c0) :: As) I I1 (some (.int v))) (hd : decode cc pc = .ok (.invokevirtual i, 3)) {st0 : List Value} (h0 : st0 = As.reverse ++ .ref (b + c0) :: st) (kk : ∀ (v : Int32) (I1 : j_M), k v I1 = some r → j_W p l e R s m args below meth c nL g b n cells slots Q I1 P (pc + 3) lv (.int v :: st)) : j_W p l e R s m args below meth c nL g b n cells slots Q I P pc lv st0 := by
  obtain ⟨v, I1, h1, h2⟩ := j_bd_some h
  exact j_callV X hC hs hc hq hl hy hnp hd2 hn2 hrm hf (hM v I1 h1) hd h0 (kk v I1 h2)
theorem j_callVv (X : j_X p R s m args meth c g b d cc nL own ret) {C : String} {i d2 n2 ci N np c0 : Nat} {y : MethodName} {cc2 : ByteArray} {r2 : Option FieldType} {T : u_T} {As : List Value} {α : Type} {fc : Option (Int32 × j_M)} {k : Int32 → j_M → Option α} {r : α} (h : j_bd fc k = some r) (hC : j_cl[ci]? = some (C, T, N)) (hs : j_sh c0 = (0, ci, N)) (hc : c0 < n) (hq : Cond.code y cc2 n2 r2 ∈ j_T ∧ Cond.instanceMethod y ∈ j_T ∧ Cond.selects C y y ∈ j_T ∧ Cond.initialized C ∈ j_T) (hl : Cond.methodLink own i y ∈ j_T)
    (hy : y.cls = C ∧ y.cls ≠ "java/lang/invoke/MethodHandle" ∧ y.cls ≠ "java/lang/invoke/VarHandle" ∧ (parseMethodDescriptor y.desc).map (fun d => d.parameters.length) = some np) (hnp : As.length = np) (hd2 : d2 + 1 ≤ d) (hn2 : n2 ≤ 21) (hrm : (st.map fun v => v.category).sum ≤ 8) (hf : cells ≤ R.cells ∧ slots ≤ R.slots)
    (hM : ∀ (v : Int32) (I1 : j_M), fc = some (v, I1) → j_Met l g b n P d2 y cc2 n2 r2 (.ref (b + c0) :: As) I I1 none) (hd : decode cc pc = .ok (.invokevirtual i, 3)) {st0 : List Value} (h0 : st0 = As.reverse ++ .ref (b + c0) :: st) (kk : ∀ (v : Int32) (I1 : j_M), k v I1 = some r → j_W p l e R s m args below meth c nL g b n cells slots Q I1 P (pc + 3) lv st) : j_W p l e R s m args below meth c nL g b n cells slots Q I P pc lv st0 := by
  obtain ⟨v, I1, h1, h2⟩ := j_bd_some h
  exact j_callV X hC hs hc hq hl hy hnp hd2 hn2 hrm hf (hM v I1 h1) hd h0 (kk v I1 h2)
/-- the answer is a reference to the cell q0 + v -/
theorem j_callVa (X : j_X p R s m args meth c g b d cc nL own ret) (q0 : Nat) {C : String} {i d2 n2 ci N np c0 : Nat} {y : MethodName} {cc2 : ByteArray} {r2 : Option FieldType} {T : u_T} {As : List Value} {α : Type} {fc : Option (Nat × j_M)} {k : Nat → j_M → Option α} {r : α} (h : j_bd fc k = some r) (hC : j_cl[ci]? = some (C, T, N)) (hs : j_sh c0 = (0, ci, N)) (hc : c0 < n) (hq : Cond.code y cc2 n2 r2 ∈ j_T ∧ Cond.instanceMethod y ∈ j_T ∧ Cond.selects C y y ∈ j_T ∧ Cond.initialized C ∈ j_T) (hl : Cond.methodLink own i y ∈ j_T)
    (hy : y.cls = C ∧ y.cls ≠ "java/lang/invoke/MethodHandle" ∧ y.cls ≠ "java/lang/invoke/VarHandle" ∧ (parseMethodDescriptor y.desc).map (fun d => d.parameters.length) = some np) (hnp : As.length = np) (hd2 : d2 + 1 ≤ d) (hn2 : n2 ≤ 21) (hrm : (st.map fun v => v.category).sum ≤ 8) (hf : cells ≤ R.cells ∧ slots ≤ R.slots)
    (hM : ∀ (v : Nat) (I1 : j_M), fc = some (v, I1) → j_Met l g b n P d2 y cc2 n2 r2 (.ref (b + c0) :: As) I I1 (some (.ref (b + (q0 + v))))) (hd : decode cc pc = .ok (.invokevirtual i, 3)) {st0 : List Value} (h0 : st0 = As.reverse ++ .ref (b + c0) :: st) (kk : ∀ (v : Nat) (I1 : j_M), k v I1 = some r → j_W p l e R s m args below meth c nL g b n cells slots Q I1 P (pc + 3) lv (.ref (b + (q0 + v)) :: st)) : j_W p l e R s m args below meth c nL g b n cells slots Q I P pc lv st0 := by
  obtain ⟨v, I1, h1, h2⟩ := j_bd_some h
  exact j_callV X hC hs hc hq hl hy hnp hd2 hn2 hrm hf (hM v I1 h1) hd h0 (kk v I1 h2)
theorem j_callSi (X : j_X p R s m args meth c g b d cc nL own ret) {i d2 n2 np : Nat} {y : MethodName} {cc2 : ByteArray} {r2 : Option FieldType} {As : List Value} {α : Type} {fc : Option (Int32 × j_M)} {k : Int32 → j_M → Option α} {r : α} (h : j_bd fc k = some r) (hq : Cond.code y cc2 n2 r2 ∈ j_T ∧ Cond.static y ∈ j_T ∧ Cond.initialized y.cls ∈ j_T) (hl : Cond.methodLink own i y ∈ j_T)
    (hy : y.cls ≠ "java/lang/invoke/MethodHandle" ∧ y.cls ≠ "java/lang/invoke/VarHandle" ∧ (parseMethodDescriptor y.desc).map (fun d => d.parameters.length) = some np) (hnp : As.length = np) (hd2 : d2 + 1 ≤ d) (hn2 : n2 ≤ 21) (hrm : (st.map fun v => v.category).sum ≤ 8) (hf : cells ≤ R.cells ∧ slots ≤ R.slots)
    (hM : ∀ (v : Int32) (I1 : j_M), fc = some (v, I1) → j_Met l g b n P d2 y cc2 n2 r2 As I I1 (some (.int v))) (hd : decode cc pc = .ok (.invokestatic i, 3)) {st0 : List Value} (h0 : st0 = As.reverse ++ st) (kk : ∀ (v : Int32) (I1 : j_M), k v I1 = some r → j_W p l e R s m args below meth c nL g b n cells slots Q I1 P (pc + 3) lv (.int v :: st)) : j_W p l e R s m args below meth c nL g b n cells slots Q I P pc lv st0 := by
  obtain ⟨v, I1, h1, h2⟩ := j_bd_some h
  exact j_callS X hq hl hy hnp hd2 hn2 hrm hf (hM v I1 h1) hd h0 (kk v I1 h2)
theorem j_callSl (X : j_X p R s m args meth c g b d cc nL own ret) {i d2 n2 np : Nat} {y : MethodName} {cc2 : ByteArray} {r2 : Option FieldType} {As : List Value} {α : Type} {fc : Option (Int64 × j_M)} {k : Int64 → j_M → Option α} {r : α} (h : j_bd fc k = some r) (hq : Cond.code y cc2 n2 r2 ∈ j_T ∧ Cond.static y ∈ j_T ∧ Cond.initialized y.cls ∈ j_T) (hl : Cond.methodLink own i y ∈ j_T)
    (hy : y.cls ≠ "java/lang/invoke/MethodHandle" ∧ y.cls ≠ "java/lang/invoke/VarHandle" ∧ (parseMethodDescriptor y.desc).map (fun d => d.parameters.length) = some np) (hnp : As.length = np) (hd2 : d2 + 1 ≤ d) (hn2 : n2 ≤ 21) (hrm : (st.map fun v => v.category).sum ≤ 8) (hf : cells ≤ R.cells ∧ slots ≤ R.slots)
    (hM : ∀ (v : Int64) (I1 : j_M), fc = some (v, I1) → j_Met l g b n P d2 y cc2 n2 r2 As I I1 (some (.long v))) (hd : decode cc pc = .ok (.invokestatic i, 3)) {st0 : List Value} (h0 : st0 = As.reverse ++ st) (kk : ∀ (v : Int64) (I1 : j_M), k v I1 = some r → j_W p l e R s m args below meth c nL g b n cells slots Q I1 P (pc + 3) lv (.long v :: st)) : j_W p l e R s m args below meth c nL g b n cells slots Q I P pc lv st0 := by
  obtain ⟨v, I1, h1, h2⟩ := j_bd_some h
  exact j_callS X hq hl hy hnp hd2 hn2 hrm hf (hM v I1 h1) hd h0 (kk v I1 h2)
theorem j_callSNi (X : j_X p R s m args meth c g b d cc nL own ret) {i d2 n2 np : Nat} {y : MethodName} {cc2 : ByteArray} {r2 : Option FieldType} {As : List Value} {α : Type} {fc : Option (Int32 × j_M)} {k : Int32 → j_M → Option α} {r : α} (h : j_bd fc k = some r) (hq : Cond.code y cc2 n2 r2 ∈ j_T ∧ Cond.static y ∈ j_T ∧ Cond.initialized y.cls ∈ j_T) (hl : (own, i, y) ∈ j_nest)
    (hy : y.cls ≠ "java/lang/invoke/MethodHandle" ∧ y.cls ≠ "java/lang/invoke/VarHandle" ∧ (parseMethodDescriptor y.desc).map (fun d => d.parameters.length) = some np) (hnp : As.length = np) (hd2 : d2 + 1 ≤ d) (hn2 : n2 ≤ 21) (hrm : (st.map fun v => v.category).sum ≤ 8) (hf : cells ≤ R.cells ∧ slots ≤ R.slots)
    (hM : ∀ (v : Int32) (I1 : j_M), fc = some (v, I1) → j_Met l g b n P d2 y cc2 n2 r2 As I I1 (some (.int v))) (hd : decode cc pc = .ok (.invokestatic i, 3)) {st0 : List Value} (h0 : st0 = As.reverse ++ st) (kk : ∀ (v : Int32) (I1 : j_M), k v I1 = some r → j_W p l e R s m args below meth c nL g b n cells slots Q I1 P (pc + 3) lv (.int v :: st)) : j_W p l e R s m args below meth c nL g b n cells slots Q I P pc lv st0 := by
  obtain ⟨v, I1, h1, h2⟩ := j_bd_some h
  exact j_callSN X hq hl hy hnp hd2 hn2 hrm hf (hM v I1 h1) hd h0 (kk v I1 h2)
theorem j_tableIn (X : j_X p R s m args meth c g b d cc nL own ret) {dflt lo hi : Int} {offs : Array Int} {len : Nat} {x k : Int32} {off : Int} {tgt : Nat} (hd : decode cc pc = .ok (.tableswitch dflt lo hi offs, len)) (hx : x = k) (h1 : ¬ k.toInt < lo) (h2 : ¬ hi < k.toInt) (ho : offs[(k.toInt - lo).toNat]? = some off) (ht : (pc : Int) + off = (tgt : Int)) (kk : j_W p l e R s m args below meth c nL g b n cells slots Q I P tgt lv st) : j_W p l e R s m args below meth c nL g b n cells slots Q I P pc lv (.int x :: st) := by
  subst hx
  exact fun H locs ls q1 q2 q3 => lv_tableIn X.1.1 X.1.2.1 hd h1 h2 ho ht (kk H locs ls q1 q2 q3)
theorem j_tableDef (X : j_X p R s m args meth c g b d cc nL own ret) {dflt lo hi : Int} {offs : Array Int} {len : Nat} {x : Int32} {tgt : Nat} (ks : List Int32) (hd : decode cc pc = .ok (.tableswitch dflt lo hi offs, len)) (hx : ∀ k ∈ ks, ¬ x = k) (hq : ∀ i : Fin offs.size, offs[i] = dflt ∨ Int32.ofInt (lo + i.val) ∈ ks) (hs : hi = lo + offs.size - 1) (hlo : -2147483648 ≤ lo) (hhi : hi < 2147483648) (ht : (pc : Int) + dflt = (tgt : Int)) (kk : j_W p l e R s m args below meth c nL g b n cells slots Q I P tgt lv st) : j_W p l e R s m args below meth c nL g b n cells slots Q I P pc lv (.int x :: st) := by
  by_cases h1 : x.toInt < lo
  · exact fun H locs ls q1 q2 q3 => lv_tableOut X.1.1 X.1.2.1 hd (Or.inl h1) ht (kk H locs ls q1 q2 q3)
  by_cases h2 : hi < x.toInt
  · exact fun H locs ls q1 q2 q3 => lv_tableOut X.1.1 X.1.2.1 hd (Or.inr h2) ht (kk H locs ls q1 q2 q3)
  have hi0 : (x.toInt - lo).toNat < offs.size := by omega
  have h3 := hq ⟨_, hi0⟩
  rcases h3 with h3 | h3
  · exact fun H locs ls q1 q2 q3 => lv_tableIn X.1.1 X.1.2.1 hd h1 h2 (by rw [Array.getElem?_eq_getElem hi0]; exact congrArg some h3) ht (kk H locs ls q1 q2 q3)
  · refine absurd ?_ (hx _ h3)
    have e1 : lo + (((x.toInt - lo).toNat : Nat) : Int) = x.toInt := by omega
    show x = Int32.ofInt (lo + ((x.toInt - lo).toNat : Nat))
    rw [e1]
    simp
theorem j_lookIn (X : j_X p R s m args meth c g b d cc nL own ret) {dflt : Int} {ps : Array (Int × Int)} {len : Nat} {x k : Int32} {off : Int} {tgt : Nat} (hd : decode cc pc = .ok (.lookupswitch dflt ps, len)) (hx : x = k) (hp : (ps.toList.zip (ps.toList.drop 1)).all (fun (a, next) => a.1 < next.1) = true) (ho : Op.lookupswitch.offset ps.toList dflt k.toInt = off) (ht : (pc : Int) + off = (tgt : Int)) (kk : j_W p l e R s m args below meth c nL g b n cells slots Q I P tgt lv st) : j_W p l e R s m args below meth c nL g b n cells slots Q I P pc lv (.int x :: st) := by
  subst hx
  exact fun H locs ls q1 q2 q3 => lv_lookup X.1.1 X.1.2.1 hd hp ho ht (kk H locs ls q1 q2 q3)
theorem j_lookOut (X : j_X p R s m args meth c g b d cc nL own ret) {dflt : Int} {ps : Array (Int × Int)} {len : Nat} {x : Int32} {tgt : Nat} (ks : List Int32) (hd : decode cc pc = .ok (.lookupswitch dflt ps, len)) (hx : ∀ k ∈ ks, ¬ x = k) (hk : ps.toList.map (fun q => q.1) = ks.map (fun k => k.toInt)) (hp : (ps.toList.zip (ps.toList.drop 1)).all (fun (a, next) => a.1 < next.1) = true) (ht : (pc : Int) + dflt = (tgt : Int)) (kk : j_W p l e R s m args below meth c nL g b n cells slots Q I P tgt lv st) : j_W p l e R s m args below meth c nL g b n cells slots Q I P pc lv (.int x :: st) := by
  refine fun H locs ls q1 q2 q3 => lv_lookup X.1.1 X.1.2.1 hd hp (j_lookDef _ (fun q hq => ?_)) ht (kk H locs ls q1 q2 q3)
  have h1 : q.1 ∈ ps.toList.map (fun q => q.1) := List.mem_map.mpr ⟨q, hq, rfl⟩
  rw [hk] at h1
  obtain ⟨k, hk1, hk2⟩ := List.mem_map.mp h1
  intro e9
  exact hx k hk1 (Int32.toInt_inj.mp (e9.trans hk2.symm))
end JW3

/-! the text constant: its object and its bytes lie in the old heap -/
def j_tx (j : Nat) : Int32 := ([112, 109, 114, 110, 103, 115, 99, 116] : List Int32).getD j 0
section JW4
variable {p : Program} {l : Launch} {e : Env} {R : Room} {s : State} {m : MethodId} {args : Array Value} {below : List Frame} {meth : Method} {c : Code} {nL : Nat} {g : j_G} {b n cells slots d : Nat} {Q : State → Prop} {I : j_M} {P : j_R} {pc : Nat} {lv lv' : List (Option Value)} {st : List Value} {cc : ByteArray} {own : String} {ret : Option FieldType}
theorem j_old {H : Heap} (h : j_Rep g b n I P H) {a : Nat} {cell : Cell} (ha : ¬ b ≤ a) (hc : g.2.2.2.2[a]? = some cell) : H[a]? = some cell := by rw [h.2.1 a (by omega)]; exact hc
theorem j_lxor (X : j_X p R s m args meth c g b d cc nL own ret) {x y : Int64} (hd : decode cc pc = .ok (.lxor, 1)) (k : j_W p l e R s m args below meth c nL g b n cells slots Q I P (pc + 1) lv (.long (x ^^^ y) :: st)) : j_W p l e R s m args below meth c nL g b n cells slots Q I P pc lv (.long y :: .long x :: st) := fun H locs ls h1 h2 h3 => lv_lxor X.1.1 X.1.2.1 hd (k H locs ls h1 h2 h3)
theorem j_ldcS (X : j_X p R s m args meth c g b d cc nL "PleasureGarden$Reader" ret) (hd : decode cc pc = .ok (.ldc 70, 2)) (k : j_W p l e R s m args below meth c nL g b n cells slots Q I P (pc + 2) lv (.ref g.2.2.1 :: st)) : j_W p l e R s m args below meth c nL g b n cells slots Q I P pc lv st := fun H locs ls h1 h2 h3 => va_ldcS X.1.1 X.1.2.1 X.1.2.2.2.1 X.2.2.2.1.2.2.1 hd (k H locs ls h1 h2 h3)
theorem j_sfld (X : j_X p R s m args meth c g b d cc nL own ret) {i : Nat} {f t : String} {v : Value} (hE : va_OF "java/lang/String" f t v g.2.2.1 (fun q => b ≤ q) s g.2.2.2.2) (hl : Cond.fieldLink own i "java/lang/String" f t ∈ j_T) (hd : decode cc pc = .ok (.getfield i, 3)) (k : j_W p l e R s m args below meth c nL g b n cells slots Q I P (pc + 3) lv (v :: st)) : j_W p l e R s m args below meth c nL g b n cells slots Q I P pc lv (.ref g.2.2.1 :: st) := by
  intro H locs ls h1 h2 h3
  obtain ⟨cf, kf, fi, f, cell, q1, q2, q3, q4, q5, q6⟩ := hE
  exact W.getf X.1.1 X.1.2.1 X.1.2.2.2.1 (X.1.2.2.2.2 _ hl) q1 q2 (j_old h1 q6 q3) q4 (v := v) q5 rfl rfl hd (k H locs ls h1 h2 h3)
theorem j_sval (X : j_X p R s m args meth c g b d cc nL own ret) {i : Nat} (hl : Cond.fieldLink own i "java/lang/String" "value" "[B" ∈ j_T) (hd : decode cc pc = .ok (.getfield i, 3)) (k : j_W p l e R s m args below meth c nL g b n cells slots Q I P (pc + 3) lv (.ref g.2.2.2.1 :: st)) : j_W p l e R s m args below meth c nL g b n cells slots Q I P pc lv (.ref g.2.2.1 :: st) :=
  j_sfld X (X.2.2.2.1.2.2.2.1.1 0 (by decide)).2.2.1 hl hd k
theorem j_scod (X : j_X p R s m args meth c g b d cc nL own ret) {i : Nat} (hl : Cond.fieldLink own i "java/lang/String" "coder" "B" ∈ j_T) (hd : decode cc pc = .ok (.getfield i, 3)) (k : j_W p l e R s m args below meth c nL g b n cells slots Q I P (pc + 3) lv (.int 0 :: st)) : j_W p l e R s m args below meth c nL g b n cells slots Q I P pc lv (.ref g.2.2.1 :: st) :=
  j_sfld X (X.2.2.2.1.2.2.2.1.1 0 (by decide)).2.1 hl hd k
theorem j_gets (X : j_X p R s m args meth c g b d cc nL own ret) {i : Nat} (hl : Cond.fieldLink own i "java/lang/String" "COMPACT_STRINGS" "Z" ∈ j_T) (hd : decode cc pc = .ok (.getstatic i, 3)) (k : j_W p l e R s m args below meth c nL g b n cells slots Q I P (pc + 3) lv (.int 1 :: st)) : j_W p l e R s m args below meth c nL g b n cells slots Q I P pc lv st := by
  intro H locs ls h1 h2 h3
  obtain ⟨cf, kf, fi, f, a, cell, q1, q2, q3, q4, q5, q6, q7, q8⟩ := X.2.2.2.1.2.2.2.2
  exact W.gets X.1.1 X.1.2.1 X.1.2.2.2.1 (X.1.2.2.2.2 _ hl) q1 q2 q3 q4 (j_old h1 q8 q5) (fun e => by rw [e] at q6; cases q6) q7 rfl hd (k H locs ls h1 h2 h3)
theorem j_slen (X : j_X p R s m args meth c g b d cc nL own ret) (hd : decode cc pc = .ok (.arraylength, 1)) (k : j_W p l e R s m args below meth c nL g b n cells slots Q I P (pc + 1) lv (.int 8 :: st)) : j_W p l e R s m args below meth c nL g b n cells slots Q I P pc lv (.ref g.2.2.2.1 :: st) := by
  intro H locs ls h1 h2 h3
  obtain ⟨cell, q1, q2, q3, q4, q5, q6, q7⟩ := (X.2.2.2.1.2.2.2.1.1 0 (by decide)).2.2.2
  have ho := va_T.out (X.2.2.2.1.2.2.2.1.1 0 (by decide)).2.2.2
  exact W.alen (n := 8) X.1.1 X.1.2.1 (j_old h1 ho q1) q2 q5 rfl rfl hd (k H locs ls h1 h2 h3)
theorem j_sbald (X : j_X p R s m args meth c g b d cc nL own ret) {i : Int32} (hd : decode cc pc = .ok (.baload, 1)) {α : Type} {A : Option α} {r : α} (h : (if j_ok i 8 = true then A else none) = some r) (kk : j_ok i 8 = true → A = some r → j_W p l e R s m args below meth c nL g b n cells slots Q I P (pc + 1) lv (.int (j_tx (j_ix i)) :: st)) : j_W p l e R s m args below meth c nL g b n cells slots Q I P pc lv (.int i :: .ref g.2.2.2.1 :: st) := by
  intro H locs ls h1 h2 h3
  by_cases h0 : j_ok i 8 = true
  · rw [if_pos h0] at h
    obtain ⟨cell, q1, q2, q3, q4, q5, q6, q7⟩ := (X.2.2.2.1.2.2.2.1.1 0 (by decide)).2.2.2
    have ho := va_T.out (X.2.2.2.1.2.2.2.1.1 0 (by decide)).2.2.2
    have hv := j_ok_in h0
    have q4 : 8 ≤ cell.slots.size := q4
    refine W.bald (v := .int (j_tx (j_ix i))) X.1.1 X.1.2.1 (j_old h1 ho q1) q2 q3 (fun q => hv (q.imp id (fun z => Nat.le_trans q4 z))) (q6 _ (j_ok_lt h0)) rfl rfl hd (kk h0 h H locs ls h1 h2 h3)
  · rw [if_neg h0] at h; cases h
theorem j_callR (X : j_X p R s m args meth c g b d cc nL own ret) {i d2 n2 np : Nat} {y : MethodName} {cc2 : ByteArray} {r2 : Option FieldType} {As : List Value} {α : Type} {fc : Option (Int32 × j_M)} {k : Int32 → j_M → Option α} {r : α} (h : j_bd fc k = some r) (hq : Cond.code y cc2 n2 r2 ∈ j_T ∧ Cond.instanceMethod y ∈ j_T ∧ Cond.selects "java/lang/String" y y ∈ j_T ∧ Cond.initialized "java/lang/String" ∈ j_T) (hl : Cond.methodLink own i y ∈ j_T)
    (hy : y.cls = "java/lang/String" ∧ y.cls ≠ "java/lang/invoke/MethodHandle" ∧ y.cls ≠ "java/lang/invoke/VarHandle" ∧ (parseMethodDescriptor y.desc).map (fun d => d.parameters.length) = some np) (hnp : As.length = np) (hd2 : d2 + 1 ≤ d) (hn2 : n2 ≤ 21) (hrm : (st.map fun v => v.category).sum ≤ 8) (hf : cells ≤ R.cells ∧ slots ≤ R.slots)
    (hM : ∀ (v : Int32) (I1 : j_M), fc = some (v, I1) → j_Met l g b n P d2 y cc2 n2 r2 (.ref g.2.2.1 :: As) I I1 (some (.int v))) (hd : decode cc pc = .ok (.invokevirtual i, 3)) {st0 : List Value} (h0 : st0 = As.reverse ++ .ref g.2.2.1 :: st) (kk : ∀ (v : Int32) (I1 : j_M), k v I1 = some r → j_W p l e R s m args below meth c nL g b n cells slots Q I1 P (pc + 3) lv (.int v :: st)) : j_W p l e R s m args below meth c nL g b n cells slots Q I P pc lv st0 := by
  obtain ⟨v, I1, e1, e2⟩ := j_bd_some h
  subst h0
  refine j_run (a := (Value.ref g.2.2.1 :: As).toArray) (mc := 0) (ms := 0) (v := some (.int v)) rfl ?_ (kk v I1 e2)
  intro H locs ls h1 h2 h3
  have hfr := X.2.2.2.2.1
  have hlo := X.2.2.2.2.2
  obtain ⟨cell, z1, z2, z3, z4⟩ := (X.2.2.2.1.2.2.2.1.1 0 (by decide)).1
  refine va_runV (C := "java/lang/String") X.1 (hM v I1 e1) (cwV np X.1.2.2.2.2 ?_ rfl rfl rfl hy ⟨by show d2 + 1 ≤ _; omega, by show 8 + (n2 + 11) + 40 * d2 ≤ _; omega⟩) ⟨j_Pre_blind, ⟨cell, j_old h1 z4 z1, z2, z3⟩, j_pre X.2.2.2.1 h1⟩ rfl hnp h3.1 rfl (lv_room hrm) hd hf
  intro w hw
  unfold wsV at hw
  rcases List.mem_append.mp hw with h | h
  · have hm : w ∈ j_T := by
      rcases List.mem_cons.mp h with rfl | h
      · exact hl
      rcases List.mem_cons.mp h with rfl | h
      · exact hq.2.1
      rcases List.mem_cons.mp h with rfl | h
      · exact hq.2.2.1
      rcases List.mem_cons.mp h with rfl | h
      · exact hq.2.2.2
      cases h
    exact ⟨hm, j_T_good _ hm⟩
  · exact j_good hq.1 w h
theorem j_bret (X : j_X p R s m args meth c g b d cc nL own ret) {v : Int32} {r : Int32 × j_M} (hr : ret = some .byte) (hn : narrow .byte (.int v) = .int v) (hd : decode cc pc = .ok (.ireturn, 1)) (h : some (v, I) = some r) : j_W p l e R s m args below meth c nL g b n cells slots (MQ below (j_Post g b n r.2 P (some (.int r.1))) args s cells slots (fun q => b ≤ q)) I P pc lv [.int v] := by
  cases h
  intro H locs ls h1 h2 h3
  have hlocks := X.2.1
  exact W.zret (v := v) (ty := .byte) X.1.1 X.1.2.1 (X.2.2.1.trans hr) hn (fun t ht hW => ⟨rfl, by rw [ht]; exact h1, h2.F ht⟩) h2.2.2 hd
end JW4

section JW2
variable {p : Program} {l : Launch} {e : Env} {R : Room} {s : State} {m : MethodId} {args : Array Value} {below : List Frame} {meth : Method} {c : Code} {nL : Nat} {g : j_G} {b n cells slots d : Nat} {Q : State → Prop} {I : j_M} {P : j_R} {pc : Nat} {lv lv' : List (Option Value)} {st : List Value} {cc : ByteArray} {own : String} {ret : Option FieldType}
theorem j_S_put {H0 H H1 : Heap} {locs : List Loc} {a i : Nat} (h : va_S (fun q => b ≤ q) H0 H locs) (z : H1.size = H.size) (o : ∀ q : Nat, q ≠ a → H1[q]? = H[q]?) (ha : b ≤ a) : va_S (fun q => b ≤ q) H0 H1 (locs ++ [⟨a, i⟩]) :=
  ⟨by rw [z]; exact h.1, fun q h1 h2 => by rw [o q (fun e => h2 (by rw [e]; exact ha))]; exact h.2.1 q h1 h2, fun x hx => by
    rcases List.mem_append.mp hx with q | q
    · exact h.2.2 x q
    · rw [List.mem_singleton.mp q]; exact ha⟩
theorem j_Rep_of {H : Heap} {I' : j_M} {P' : j_R} {H1 : Heap} {ws : va_W} (h : j_Rep g b n I P H) (z : H1.size = H.size) (o : ∀ q, q < b → H1[q]? = H[q]?) (hP : va_P g.1 j_cl ws H1) (hw : ws = j_ws g.2.1 b n I' P') : j_Rep g b n I' P' H1 :=
  ⟨z.trans h.1, fun q hq => (o q hq).trans (h.2.1 q hq), hw ▸ hP⟩
theorem j_pfv (X : j_X p R s m args meth c g b d cc nL own ret) {C : String} {T : u_T} {N ci i k c0 : Nat} {v : Value} {ty : FieldType} (ty0 : Nat → FieldType) (hto : ∀ k, k < N → parseFieldDescriptor (T k).2.2.1 = some (ty0 k)) (hnm : ∀ a, a < N → ∀ b, b < N → a ≠ b → (T a).2.1 ≠ (T b).2.1) (hF : j_F own C T N ci i k) (hs : j_sh c0 = (0, ci, N)) (hc : c0 < n)
    (hfin : (T k).2.2.2 = false ∨ ((T k).2.2.2 = true ∧ meth.name = "<init>" ∧ C = own)) (hty : ty0 k = ty) (hn : narrow ty v = v) (hfit : fits ty v = true) (hd : decode cc pc = .ok (.putfield i, 3)) {I' : j_M} {P' : j_R} (hv : j_fv b I' P' ci c0 k = v) (ho : ∀ x, x ≠ c0 → j_en g.2.1 b I P x = j_en g.2.1 b I' P' x) (ho2 : ∀ j, j ≠ k → j_fv b I' P' ci c0 j = j_fv b I P ci c0 j) (kk : j_W p l e R s m args below meth c nL g b n cells slots Q I' P' (pc + 3) lv st) : j_W p l e R s m args below meth c nL g b n cells slots Q I P pc lv (v :: .ref (b + c0) :: st) := by
  intro H locs ls h1 h2 h3
  obtain ⟨f1, f2, f3, f4, f5⟩ := hF
  have he : (j_ws g.2.1 b n I P)[c0]? = some (b + c0, .inr (ci, (List.range N).map (j_fv b I P ci c0))) := by rw [j_ws_at hc, j_en_obj hs]
  have key : (j_ws g.2.1 b n I P).set c0 (b + c0, .inr (ci, ((List.range N).map (j_fv b I P ci c0)).set k v)) = j_ws g.2.1 b n I' P' := by
    refine j_ws_set ?_ ho
    rw [j_en_obj hs, j_set_fs hv ho2]
  have hd9 : parseFieldDescriptor (T k).2.2.1 = some ty := by rw [hto k f3, hty]
  have hS0 : va_S (fun q => b ≤ q) H H [] := va_S.rf
  have hw : va_P g.1 j_cl (j_ws g.2.1 b n I P) H := h1.2.2
  have fin : ∀ (H1 : Heap) (locs1 : List Loc), H1.size = H.size → va_P g.1 j_cl ((j_ws g.2.1 b n I P).set c0 (b + c0, .inr (ci, ((List.range N).map (j_fv b I P ci c0)).set k v))) H1 → (∀ q, q < b → H1[q]? = H[q]?) → va_S (fun q => b ≤ q) s.heap H1 locs1 → W p l e R s m args below meth c H1 locs1 cells slots Q (F0 m (pc + 3) ls st) := fun H1 locs1 z hP1 o hS => kk H1 locs1 ls (j_Rep_of h1 z o hP1 key) hS h3
  have hap := va_apart (own := own) X.1.2.2.2.2 f1 ty0 hto hnm X.2.2.2.1.1 f2
  obtain ⟨r, g1, cell, q1, q2, q3, q4⟩ := hw c0 _ he
  have hr : r = (C, T, N) := Option.some.inj (g1.symm.trans f2)
  subst hr
  obtain ⟨hS, hfc, kC, hkC, hkind⟩ := X.2.2.2.1.1.1 ci _ f2
  obtain ⟨cf, kf, fi, f, hi, hsl⟩ := hS k f3
  have hi2 : s.fieldFound? C (T k).2.1 (T k).2.2.1 = some (cf, kf, fi, f) := by rw [← f4]; exact hi
  have hlay := u_lays X.1.2.2.2.2 f1 f3
  have hff := u_fits hfc hkC hkind hlay hi hd9 hn hfit
  have hlt : f.slot < cell.slots.size := by
    have := q4 k f3
    rw [← hsl] at this
    exact (Array.getElem?_eq_some_iff.mp this).1
  have ha : b + c0 < H.size := (Array.getElem?_eq_some_iff.mp q1).1
  refine W.putf X.1.1 X.1.2.1 X.1.2.2.2.1 (X.1.2.2.2.2 _ f5) hi2 (u_facts hfc hkC hlay hi).1 ?_ q1 (by rw [q3]; exact fun h => by cases h) hlt hff.1 (by rw [q2, q3]; exact hff.2) rfl rfl hd ?_
  · rcases hfin with hfin | ⟨hfin, hin, hC⟩
    · left
      have hl := X.1.2.2.2.2 _ (f1 _ (u_in_lay f3))
      unfold u_lay at hl
      rw [hfin] at hl
      exact (u_store hfc hkC hkind (by simpa using hl) hi hd9 hn hfit).1
    · right
      refine ⟨?_, hin⟩
      have hl := X.1.2.2.2.2 _ (f1 _ (u_in_lay f3))
      unfold u_lay at hl
      rw [if_pos hfin] at hl
      obtain ⟨_, _, c', _, _, _, -, -, hf', -, -, -, hown2, -⟩ := Cond.laysFinal_spec hl
      have e1 : c' = cf := by have := hi.symm.trans hf'; simp at this; exact this.1.symm
      rw [f4, hC] at hown2
      rw [← e1]
      exact Option.some.inj (X.1.2.2.2.1.symm.trans hown2)
  · refine fin _ _ (by simp) ?_ (fun q hq => ?_) ?_
    · refine va_P.set hw (j_ws_D (b := b)) he ?_ (fun q hq => by simp [Array.getElem?_setIfInBounds, Ne.symm hq])
      refine ⟨_, f2, cell.setSlot f.slot v, by simp [Array.getElem?_setIfInBounds, ha], by simp [Cell.setSlot, q2], by simp [Cell.setSlot, q3], fun j hj => ?_⟩
      by_cases e : j = k
      · subst e
        show (cell.setSlot f.slot v).slots[_]? = _
        rw [← hsl]
        simp [Cell.setSlot, hlt, vp_V, hj]
      · have hne : f.slot ≠ g.1.2 ci j := by rw [hsl]; exact hap k j f3 hj (Ne.symm e)
        have h9 := q4 j hj
        show (cell.setSlot f.slot v).slots[_]? = _
        simp [Cell.setSlot, hne, h9, vp_V, hj, Ne.symm e]
    · have h8 : q ≠ b + c0 := by omega
      simp [Array.getElem?_setIfInBounds, Ne.symm h8]
    · exact j_S_put h2 (by simp) (fun q hq => by simp [Array.getElem?_setIfInBounds, Ne.symm hq]) (Nat.le_add_right b c0)
theorem j_fv_wr {ci c0 k j : Nat} {v : Int32} (h : j ≠ k) : j_fv b (j_wr I c0 k v) P ci c0 j = j_fv b I P ci c0 j := by
  unfold j_fv
  rw [j_wr_idx I c0 v h]
theorem j_put (X : j_X p R s m args meth c g b d cc nL own ret) {C : String} {T : u_T} {N ci i k c0 : Nat} {x : Int32} {ty : FieldType} (ty0 : Nat → FieldType) (hto : ∀ k, k < N → parseFieldDescriptor (T k).2.2.1 = some (ty0 k)) (hnm : ∀ a, a < N → ∀ b, b < N → a ≠ b → (T a).2.1 ≠ (T b).2.1) (hF : j_F own C T N ci i k) (hk : j_fk ci k = 0) (hs : j_sh c0 = (0, ci, N)) (hc : c0 < n)
    (hfin : (T k).2.2.2 = false ∨ ((T k).2.2.2 = true ∧ meth.name = "<init>" ∧ C = own)) (hty : ty0 k = ty) (hn : narrow ty (.int x) = .int x) (hfit : fits ty (.int x) = true) (hd : decode cc pc = .ok (.putfield i, 3)) (kk : j_W p l e R s m args below meth c nL g b n cells slots Q (j_wr I c0 k x) P (pc + 3) lv st) : j_W p l e R s m args below meth c nL g b n cells slots Q I P pc lv (.int x :: .ref (b + c0) :: st) :=
  j_pfv X ty0 hto hnm hF hs hc hfin hty hn hfit hd (by simp [j_fv, hk, j_wr_same]) (fun x hx => j_en_ne x hx) (fun j hj => j_fv_wr hj) kk
theorem j_puti (X : j_X p R s m args meth c g b d cc nL own ret) {C : String} {T : u_T} {N ci i k c0 : Nat} {x : Int32} (ty0 : Nat → FieldType) (hto : ∀ k, k < N → parseFieldDescriptor (T k).2.2.1 = some (ty0 k)) (hnm : ∀ a, a < N → ∀ b, b < N → a ≠ b → (T a).2.1 ≠ (T b).2.1) (hF : j_F own C T N ci i k) (hk : j_fk ci k = 0) (hs : j_sh c0 = (0, ci, N)) (hc : c0 < n)
    (hfin : (T k).2.2.2 = false ∨ ((T k).2.2.2 = true ∧ meth.name = "<init>" ∧ C = own)) (hty : ty0 k = .int) (hd : decode cc pc = .ok (.putfield i, 3)) (kk : j_W p l e R s m args below meth c nL g b n cells slots Q (j_wr I c0 k x) P (pc + 3) lv st) : j_W p l e R s m args below meth c nL g b n cells slots Q I P pc lv (.int x :: .ref (b + c0) :: st) :=
  j_put X ty0 hto hnm hF hk hs hc hfin hty rfl rfl hd kk
/-- a reference that is kept as a number -/
theorem j_putt (X : j_X p R s m args meth c g b d cc nL own ret) {C : String} {T : u_T} {N ci i k c0 : Nat} (q : Nat) (hq : q < 1000) (ty0 : Nat → FieldType) (hto : ∀ k, k < N → parseFieldDescriptor (T k).2.2.1 = some (ty0 k)) (hnm : ∀ a, a < N → ∀ b, b < N → a ≠ b → (T a).2.1 ≠ (T b).2.1) (hF : j_F own C T N ci i k) (hk : j_fk ci k = 2) (hs : j_sh c0 = (0, ci, N)) (hc : c0 < n)
    (hfin : (T k).2.2.2 = false ∨ ((T k).2.2.2 = true ∧ meth.name = "<init>" ∧ C = own)) {t : FieldType} (hty : ty0 k = .array t) (hd : decode cc pc = .ok (.putfield i, 3)) (kk : j_W p l e R s m args below meth c nL g b n cells slots Q (j_wr I c0 k (nI q)) P (pc + 3) lv st) : j_W p l e R s m args below meth c nL g b n cells slots Q I P pc lv (.ref (b + q) :: .ref (b + c0) :: st) :=
  j_pfv X ty0 hto hnm hF hs hc hfin hty rfl rfl hd (by
    have hn : ¬ nI q < 0 := nI_pos (by omega)
    simp [j_fv, hk, j_wr_same, hn, j_ix, nI_clamp (show q < 2 ^ 31 by omega)]) (fun x hx => j_en_ne x hx) (fun j hj => j_fv_wr hj) kk
theorem j_fv_wp {ci c0 k j : Nat} {v : Option Nat} (h : j ≠ k) : j_fv b I (j_wp P c0 k v) ci c0 j = j_fv b I P ci c0 j := by
  unfold j_fv
  rw [show j_wp P c0 k v c0 j = P c0 j by simp [j_wp, h]]
theorem j_putr (X : j_X p R s m args meth c g b d cc nL own ret) {C : String} {T : u_T} {N ci i k c0 q : Nat} {ty : FieldType} (ty0 : Nat → FieldType) (hto : ∀ k, k < N → parseFieldDescriptor (T k).2.2.1 = some (ty0 k)) (hnm : ∀ a, a < N → ∀ b, b < N → a ≠ b → (T a).2.1 ≠ (T b).2.1) (hF : j_F own C T N ci i k) (hk : j_fk ci k = 1) (hs : j_sh c0 = (0, ci, N)) (hc : c0 < n)
    (hfin : (T k).2.2.2 = false ∨ ((T k).2.2.2 = true ∧ meth.name = "<init>" ∧ C = own)) (hty : ty0 k = ty) (hn : narrow ty (.ref (b + q)) = .ref (b + q)) (hfit : fits ty (.ref (b + q)) = true) (hd : decode cc pc = .ok (.putfield i, 3)) (kk : j_W p l e R s m args below meth c nL g b n cells slots Q I (j_wp P c0 k (some q)) (pc + 3) lv st) : j_W p l e R s m args below meth c nL g b n cells slots Q I P pc lv (.ref (b + q) :: .ref (b + c0) :: st) :=
  j_pfv X ty0 hto hnm hF hs hc hfin hty hn hfit hd (by simp [j_fv, hk, j_wp, va_rf]) (fun x hx => j_en_neP x hx) (fun j hj => j_fv_wp hj) kk
theorem j_iald (X : j_X p R s m args meth c g b d cc nL own ret) {c0 N : Nat} {i : Int32} (hs : j_sh c0 = (1, 0, N)) (hc : c0 < n) (hd : decode cc pc = .ok (.iaload, 1)) {α : Type} {A : Option α} {r : α} (h : (if j_ok i N = true then A else none) = some r) (kk : j_ok i N = true → A = some r → j_W p l e R s m args below meth c nL g b n cells slots Q I P (pc + 1) lv (.int (I c0 (j_ix i)) :: st)) : j_W p l e R s m args below meth c nL g b n cells slots Q I P pc lv (.int i :: .ref (b + c0) :: st) := by
  intro H locs ls h1 h2 h3
  by_cases h0 : j_ok i N = true
  · rw [if_pos h0] at h
    have hP := j_cell h1 hc
    rw [j_en_arr hs] at hP
    exact va_iald X.1.1 X.1.2.1 X.2.2.2.1.1 hP 0 0 rfl rfl (j_ok_in h0) hd (kk h0 h H locs ls h1 h2 h3)
  · rw [if_neg h0] at h; cases h
theorem j_zald (X : j_X p R s m args meth c g b d cc nL own ret) {c0 N : Nat} {i : Int32} (hs : j_sh c0 = (1, 1, N)) (hc : c0 < n) (hd : decode cc pc = .ok (.baload, 1)) {α : Type} {A : Option α} {r : α} (h : (if j_ok i N = true then A else none) = some r) (kk : j_ok i N = true → A = some r → j_W p l e R s m args below meth c nL g b n cells slots Q I P (pc + 1) lv (.int (I c0 (j_ix i)) :: st)) : j_W p l e R s m args below meth c nL g b n cells slots Q I P pc lv (.int i :: .ref (b + c0) :: st) := by
  intro H locs ls h1 h2 h3
  by_cases h0 : j_ok i N = true
  · rw [if_pos h0] at h
    have hP := j_cell h1 hc
    rw [j_en_arr hs] at hP
    exact va_zald X.1.1 X.1.2.1 X.2.2.2.1.1 hP 0 1 rfl rfl (j_ok_in h0) hd (kk h0 h H locs ls h1 h2 h3)
  · rw [if_neg h0] at h; cases h
theorem j_bald (X : j_X p R s m args meth c g b d cc nL own ret) {c0 N : Nat} {i : Int32} (hs : j_sh c0 = (1, 2, N)) (hc : c0 < n) (hd : decode cc pc = .ok (.baload, 1)) {α : Type} {A : Option α} {r : α} (h : (if j_ok i N = true then A else none) = some r) (kk : j_ok i N = true → A = some r → j_W p l e R s m args below meth c nL g b n cells slots Q I P (pc + 1) lv (.int (I c0 (j_ix i)) :: st)) : j_W p l e R s m args below meth c nL g b n cells slots Q I P pc lv (.int i :: .ref (b + c0) :: st) := by
  intro H locs ls h1 h2 h3
  by_cases h0 : j_ok i N = true
  · rw [if_pos h0] at h
    have hP := j_cell h1 hc
    rw [j_en_arr hs] at hP
    exact va_bald X.1.1 X.1.2.1 X.2.2.2.1.1 hP 0 2 rfl rfl (j_ok_in h0) hd (kk h0 h H locs ls h1 h2 h3)
  · rw [if_neg h0] at h; cases h
theorem j_iast (X : j_X p R s m args meth c g b d cc nL own ret) {c0 N : Nat} {i x : Int32} (hs : j_sh c0 = (1, 0, N)) (hc : c0 < n) (hd : decode cc pc = .ok (.iastore, 1)) {α : Type} {A : Option α} {r : α} (h : (if j_ok i N = true then A else none) = some r) (kk : A = some r → j_W p l e R s m args below meth c nL g b n cells slots Q (j_wr I c0 (j_ix i) x) P (pc + 1) lv st) : j_W p l e R s m args below meth c nL g b n cells slots Q I P pc lv (.int x :: .int i :: .ref (b + c0) :: st) := by
  intro H locs ls h1 h2 h3
  by_cases h0 : j_ok i N = true
  · rw [if_pos h0] at h
    have he : (j_ws g.2.1 b n I P)[c0]? = some (b + c0, .inl (g.2.1 0, N, .inl (I c0))) := by rw [j_ws_at hc, j_en_arr hs]
    have hw : va_P g.1 j_cl (j_ws g.2.1 b n I P) H := h1.2.2
    have key : (j_ws g.2.1 b n I P).set c0 (b + c0, .inl (g.2.1 0, N, .inl (upd (I c0) (j_ix i) x))) = j_ws g.2.1 b n (j_wr I c0 (j_ix i) x) P := by
      refine j_ws_set ?_ (fun x hx => j_en_ne x hx)
      rw [j_en_arr hs, j_wr_row]
    refine W.iast X.1.1 X.1.2.1 (hw c0 _ he) ((X.2.2.2.1.1.2 0 _ rfl).1 N (fun j => .int (I c0 j))) (fun q => by cases q) (by show ¬ (i < 0 ∨ (arrV _ _ _).slots.size ≤ _); rw [arrV_size]; exact j_ok_in h0) rfl rfl hd fun H1 e z oq => ?_
    refine kk h H1 _ ls (j_Rep_of h1 z (fun q hq => oq q (show q ≠ b + c0 by omega)) (hw.set (j_ws_D (b := b)) he ?_ oq) key) (j_S_put h2 z oq (Nat.le_add_right b c0)) h3
    show H1[b + c0]? = some (vp_cell _ _)
    rw [e, vp_cell_i]
    show some ((arrV _ _ _).setSlot _ _) = _
    rw [arrV_store]
    show some (arrV (g.2.1 0) N _) = some (arrV (g.2.1 0) N (fun j => .int (upd (I c0) (j_ix i) x j)))
    refine congrArg some (congrArg (arrV (g.2.1 0) N) (funext fun j => ?_))
    by_cases hj : j = j_ix i
    · subst hj; simp [updV, upd, j_ix, narrow]
    · simp [updV, upd, hj, show j ≠ i.toNatClampNeg from hj]
  · rw [if_neg h0] at h; cases h
theorem j_zast (X : j_X p R s m args meth c g b d cc nL own ret) {c0 N : Nat} {i x : Int32} (hs : j_sh c0 = (1, 1, N)) (hc : c0 < n) (hd : decode cc pc = .ok (.bastore, 1)) {α : Type} {A : Option α} {r : α} (h : (if j_ok i N = true then A else none) = some r) (kk : A = some r → j_W p l e R s m args below meth c nL g b n cells slots Q (j_wr I c0 (j_ix i) (x &&& 1)) P (pc + 1) lv st) : j_W p l e R s m args below meth c nL g b n cells slots Q I P pc lv (.int x :: .int i :: .ref (b + c0) :: st) := by
  intro H locs ls h1 h2 h3
  by_cases h0 : j_ok i N = true
  · rw [if_pos h0] at h
    have he : (j_ws g.2.1 b n I P)[c0]? = some (b + c0, .inl (g.2.1 1, N, .inl (I c0))) := by rw [j_ws_at hc, j_en_arr hs]
    have hw : va_P g.1 j_cl (j_ws g.2.1 b n I P) H := h1.2.2
    have key : (j_ws g.2.1 b n I P).set c0 (b + c0, .inl (g.2.1 1, N, .inl (upd (I c0) (j_ix i) (x &&& 1)))) = j_ws g.2.1 b n (j_wr I c0 (j_ix i) (x &&& 1)) P := by
      refine j_ws_set ?_ (fun x hx => j_en_ne x hx)
      rw [j_en_arr hs, j_wr_row]
    refine W.zast X.1.1 X.1.2.1 (hw c0 _ he) ((X.2.2.2.1.1.2 1 _ rfl).1 N (fun j => .int (I c0 j))) (fun q => by cases q) (by show ¬ (i < 0 ∨ (arrV _ _ _).slots.size ≤ _); rw [arrV_size]; exact j_ok_in h0) rfl rfl hd fun H1 e z oq => ?_
    refine kk h H1 _ ls (j_Rep_of h1 z (fun q hq => oq q (show q ≠ b + c0 by omega)) (hw.set (j_ws_D (b := b)) he ?_ oq) key) (j_S_put h2 z oq (Nat.le_add_right b c0)) h3
    show H1[b + c0]? = some (vp_cell _ _)
    rw [e, vp_cell_i]
    show some ((arrV _ _ _).setSlot _ _) = _
    rw [arrV_store]
    show some (arrV (g.2.1 1) N _) = some (arrV (g.2.1 1) N (fun j => .int (upd (I c0) (j_ix i) (x &&& 1) j)))
    refine congrArg some (congrArg (arrV (g.2.1 1) N) (funext fun j => ?_))
    by_cases hj : j = j_ix i
    · subst hj; simp [updV, upd, j_ix, narrow]
    · simp [updV, upd, hj, show j ≠ i.toNatClampNeg from hj]
  · rw [if_neg h0] at h; cases h
theorem j_bast (X : j_X p R s m args meth c g b d cc nL own ret) {c0 N : Nat} {i x : Int32} (hs : j_sh c0 = (1, 2, N)) (hc : c0 < n) (hd : decode cc pc = .ok (.bastore, 1)) {α : Type} {A : Option α} {r : α} (h : (if j_ok i N = true then A else none) = some r) (kk : A = some r → j_W p l e R s m args below meth c nL g b n cells slots Q (j_wr I c0 (j_ix i) x.toInt8.toInt32) P (pc + 1) lv st) : j_W p l e R s m args below meth c nL g b n cells slots Q I P pc lv (.int x :: .int i :: .ref (b + c0) :: st) := by
  intro H locs ls h1 h2 h3
  by_cases h0 : j_ok i N = true
  · rw [if_pos h0] at h
    have he : (j_ws g.2.1 b n I P)[c0]? = some (b + c0, .inl (g.2.1 2, N, .inl (I c0))) := by rw [j_ws_at hc, j_en_arr hs]
    have hw : va_P g.1 j_cl (j_ws g.2.1 b n I P) H := h1.2.2
    have key : (j_ws g.2.1 b n I P).set c0 (b + c0, .inl (g.2.1 2, N, .inl (upd (I c0) (j_ix i) x.toInt8.toInt32))) = j_ws g.2.1 b n (j_wr I c0 (j_ix i) x.toInt8.toInt32) P := by
      refine j_ws_set ?_ (fun x hx => j_en_ne x hx)
      rw [j_en_arr hs, j_wr_row]
    refine W.bast X.1.1 X.1.2.1 (hw c0 _ he) ((X.2.2.2.1.1.2 2 _ rfl).1 N (fun j => .int (I c0 j))) (fun q => by cases q) (by show ¬ (i < 0 ∨ (arrV _ _ _).slots.size ≤ _); rw [arrV_size]; exact j_ok_in h0) rfl rfl hd fun H1 e z oq => ?_
    refine kk h H1 _ ls (j_Rep_of h1 z (fun q hq => oq q (show q ≠ b + c0 by omega)) (hw.set (j_ws_D (b := b)) he ?_ oq) key) (j_S_put h2 z oq (Nat.le_add_right b c0)) h3
    show H1[b + c0]? = some (vp_cell _ _)
    rw [e, vp_cell_i]
    show some ((arrV _ _ _).setSlot _ _) = _
    rw [arrV_store]
    show some (arrV (g.2.1 2) N _) = some (arrV (g.2.1 2) N (fun j => .int (upd (I c0) (j_ix i) x.toInt8.toInt32 j)))
    refine congrArg some (congrArg (arrV (g.2.1 2) N) (funext fun j => ?_))
    by_cases hj : j = j_ix i
    · subst hj; simp [updV, upd, j_ix, narrow]
    · simp [updV, upd, hj, show j ≠ i.toNatClampNeg from hj]
  · rw [if_neg h0] at h; cases h
theorem j_aald (X : j_X p R s m args meth c g b d cc nL own ret) {c0 N t q : Nat} {i : Int32} {ty : FieldType} (ht : (j_ty g.2.1)[t]? = some (g.2.1 t, ty)) (hr : ty.isReference = true) (hs : j_sh c0 = (2, t, N)) (hc : c0 < n) (hd : decode cc pc = .ok (.aaload, 1)) (hp : j_ok i N = true → P c0 (j_ix i) = some q) {α : Type} {A : Option α} {r : α} (h : (if j_ok i N = true then A else none) = some r) (kk : j_ok i N = true → A = some r → j_W p l e R s m args below meth c nL g b n cells slots Q I P (pc + 1) lv (.ref (b + q) :: st)) : j_W p l e R s m args below meth c nL g b n cells slots Q I P pc lv (.int i :: .ref (b + c0) :: st) := by
  intro H locs ls h1 h2 h3
  by_cases h0 : j_ok i N = true
  · rw [if_pos h0] at h
    have hP := j_cell h1 hc
    rw [j_en_ref hs] at hP
    have hcell := hP 0 _ rfl
    refine W.aald (v := .ref (b + q)) (ty := ty) X.1.1 X.1.2.1 hcell ((X.2.2.2.1.1.2 t _ ht).1 N (fun j => va_rf ((P c0 j).map (fun q => b + q)))) hr (fun q => by cases q) (by show ¬ (i < 0 ∨ (arrV _ _ _).slots.size ≤ _); rw [arrV_size]; exact j_ok_in h0) ?_ rfl rfl hd (kk h0 h H locs ls h1 h2 h3)
    show (arrV (g.2.1 t) N (fun j => va_rf ((P c0 j).map (fun q => b + q)))).slots[i.toNatClampNeg]? = _
    rw [arrV_read _ _ (show i.toNatClampNeg < N from j_ok_lt h0)]
    have h9 := hp h0
    unfold j_ix at h9
    simp [h9, va_rf]
  · rw [if_neg h0] at h; cases h
theorem j_alen (X : j_X p R s m args meth c g b d cc nL own ret) {c0 N t : Nat} {v : Int32} {ty : FieldType} (ht : (j_ty g.2.1)[t]? = some (g.2.1 t, ty)) (hs : j_sh c0 = (1, t, N)) (hc : c0 < n) (hd : decode cc pc = .ok (.arraylength, 1)) (hv : Int32.ofNat N = v) (kk : j_W p l e R s m args below meth c nL g b n cells slots Q I P (pc + 1) lv (.int v :: st)) : j_W p l e R s m args below meth c nL g b n cells slots Q I P pc lv (.ref (b + c0) :: st) := by
  intro H locs ls h1 h2 h3
  have hP := j_cell h1 hc
  rw [j_en_arr hs] at hP
  have hcell := hP 0 _ rfl
  exact W.alen (ty := ty) X.1.1 X.1.2.1 hcell ((X.2.2.2.1.1.2 t _ ht).1 N (fun j => .int (I c0 j))) (by show (arrV _ _ _).slots.size.toInt32 = v; rw [arrV_size]; exact hv) rfl rfl hd (kk H locs ls h1 h2 h3)
theorem j_mmax (X : j_X p R s m args meth c g b d cc nL own ret) {x y : Int32} {i : Nat} (hl : Cond.methodLink own i Lib.Math.max.name ∈ j_T) (hq : 1 ≤ d) (hr : (st.map fun v => v.category).sum ≤ 8) (hf : cells ≤ R.cells ∧ slots ≤ R.slots) (hd : decode cc pc = .ok (.invokestatic i, 3)) (kk : j_W p l e R s m args below meth c nL g b n cells slots Q I P (pc + 3) lv (.int (if x < y then y else x) :: st)) : j_W p l e R s m args below meth c nL g b n cells slots Q I P pc lv (.int y :: .int x :: st) := fun H locs ls h1 h2 h3 => va_mmax X.1.1 X.1.2.1 (X.1.2.2.1.trans h3.1.symm) X.1.2.2.2.1 (X.1.2.2.2.2 _ hl) (X.1.2.2.2.2 _ jqms_max) (X.1.2.2.2.2 _ jqn_Ma) (X.1.2.2.2.2 _ jqmc_max) (Nat.le_trans hq X.2.2.2.2.1) (by have := X.2.2.2.2.2; omega) hf.1 hf.2 hd (kk H locs ls h1 h2 h3)
theorem j_mmin (X : j_X p R s m args meth c g b d cc nL own ret) {x y : Int32} {i : Nat} (hl : Cond.methodLink own i Lib.Math.min.name ∈ j_T) (hq : 1 ≤ d) (hr : (st.map fun v => v.category).sum ≤ 8) (hf : cells ≤ R.cells ∧ slots ≤ R.slots) (hd : decode cc pc = .ok (.invokestatic i, 3)) (kk : j_W p l e R s m args below meth c nL g b n cells slots Q I P (pc + 3) lv (.int (if y < x then y else x) :: st)) : j_W p l e R s m args below meth c nL g b n cells slots Q I P pc lv (.int y :: .int x :: st) := fun H locs ls h1 h2 h3 => va_mmin X.1.1 X.1.2.1 (X.1.2.2.1.trans h3.1.symm) X.1.2.2.2.1 (X.1.2.2.2.2 _ hl) (X.1.2.2.2.2 _ jqms_min) (X.1.2.2.2.2 _ jqn_Ma) (X.1.2.2.2.2 _ jqmc_min) (Nat.le_trans hq X.2.2.2.2.1) (by have := X.2.2.2.2.2; omega) hf.1 hf.2 hd (kk H locs ls h1 h2 h3)
theorem j_mabs (X : j_X p R s m args meth c g b d cc nL own ret) {x : Int32} {i : Nat} (hl : Cond.methodLink own i Lib.Math.abs.name ∈ j_T) (hq : 1 ≤ d) (hr : (st.map fun v => v.category).sum ≤ 8) (hf : cells ≤ R.cells ∧ slots ≤ R.slots) (hd : decode cc pc = .ok (.invokestatic i, 3)) (kk : j_W p l e R s m args below meth c nL g b n cells slots Q I P (pc + 3) lv (.int (if 0 ≤ x then x else 0 - x) :: st)) : j_W p l e R s m args below meth c nL g b n cells slots Q I P pc lv (.int x :: st) := fun H locs ls h1 h2 h3 => va_mabs X.1.1 X.1.2.1 (X.1.2.2.1.trans h3.1.symm) X.1.2.2.2.1 (X.1.2.2.2.2 _ hl) (X.1.2.2.2.2 _ jqms_abs) (X.1.2.2.2.2 _ jqn_Ma) (X.1.2.2.2.2 _ jqmc_abs) (Nat.le_trans hq X.2.2.2.2.1) (by have := X.2.2.2.2.2; omega) hf.1 hf.2 hd (kk H locs ls h1 h2 h3)
theorem j_iret (X : j_X p R s m args meth c g b d cc nL own ret) {v : Int32} {r : Int32 × j_M} (hr : ret = some .int) (hd : decode cc pc = .ok (.ireturn, 1)) (h : some (v, I) = some r) : j_W p l e R s m args below meth c nL g b n cells slots (MQ below (j_Post g b n r.2 P (some (.int r.1))) args s cells slots (fun q => b ≤ q)) I P pc lv [.int v] := by
  cases h
  intro H locs ls h1 h2 h3
  have hlocks := X.2.1
  exact W.iret (v := v) X.1.1 X.1.2.1 (X.2.2.1.trans hr) (fun t ht hW => ⟨rfl, by rw [ht]; exact h1, h2.F ht⟩) h2.2.2 hd
theorem j_zret (X : j_X p R s m args meth c g b d cc nL own ret) {v : Int32} {r : Int32 × j_M} (hr : ret = some .boolean) (hn : v &&& 1 = v) (hd : decode cc pc = .ok (.ireturn, 1)) (h : some (v, I) = some r) : j_W p l e R s m args below meth c nL g b n cells slots (MQ below (j_Post g b n r.2 P (some (.int r.1))) args s cells slots (fun q => b ≤ q)) I P pc lv [.int v] := by
  cases h
  intro H locs ls h1 h2 h3
  have hlocks := X.2.1
  exact W.zret (v := v) (ty := .boolean) X.1.1 X.1.2.1 (X.2.2.1.trans hr) (by simp [narrow, hn]) (fun t ht hW => ⟨rfl, by rw [ht]; exact h1, h2.F ht⟩) h2.2.2 hd
theorem j_vret (X : j_X p R s m args meth c g b d cc nL own ret) {r : Int32 × j_M} (hr : ret = none) (hd : decode cc pc = .ok (.return_, 1)) (h : some ((0 : Int32), I) = some r) : j_W p l e R s m args below meth c nL g b n cells slots (MQ below (j_Post g b n r.2 P none) args s cells slots (fun q => b ≤ q)) I P pc lv [] := by
  cases h
  intro H locs ls h1 h2 h3
  have hlocks := X.2.1
  exact W.vret X.1.1 X.1.2.1 (X.2.2.1.trans hr) (fun t ht hW => ⟨rfl, by rw [ht]; exact h1, h2.F ht⟩) h2.2.2 hd
theorem j_lret (X : j_X p R s m args meth c g b d cc nL own ret) {v : Int64} {r : Int64 × j_M} (hr : ret = some .long) (hd : decode cc pc = .ok (.lreturn, 1)) (h : some (v, I) = some r) : j_W p l e R s m args below meth c nL g b n cells slots (MQ below (j_Post g b n r.2 P (some (.long r.1))) args s cells slots (fun q => b ≤ q)) I P pc lv [.long v] := by
  cases h
  intro H locs ls h1 h2 h3
  have hlocks := X.2.1
  exact W.lret (v := v) X.1.1 X.1.2.1 (X.2.2.1.trans hr) (fun t ht hW => ⟨rfl, by rw [ht]; exact h1, h2.F ht⟩) h2.2.2 hd
/-- a reference to the cell q0 + k, answered by the number k -/
theorem j_aret (X : j_X p R s m args meth c g b d cc nL own ret) {v : Nat} {r : Nat × j_M} (q0 : Nat) {C : String} (hr : ret = some (.object C)) (hd : decode cc pc = .ok (.areturn, 1)) (h : some (v, I) = some r) : j_W p l e R s m args below meth c nL g b n cells slots (MQ below (j_Post g b n r.2 P (some (.ref (b + (q0 + r.1))))) args s cells slots (fun q => b ≤ q)) I P pc lv [.ref (b + (q0 + v))] := by
  cases h
  intro H locs ls h1 h2 h3
  have hlocks := X.2.1
  exact W.aret (v := .ref (b + (q0 + v))) X.1.1 X.1.2.1 (X.2.2.1.trans hr) (Or.inl ⟨C, rfl⟩) (Or.inr ⟨_, rfl⟩) (fun t ht hW => ⟨rfl, by rw [ht]; exact h1, h2.F ht⟩) h2.2.2 hd
/-- a method of this kind: its contract, over the memory before and behind it -/
def j_Met (l : Launch) (g : j_G) (b n : Nat) (P : j_R) (d : Nat) (y : MethodName) (cc : ByteArray) (nL : Nat) (ret : Option FieldType) (av : List Value) (I I' : j_M) (r : Option Value) : Prop :=
  Met l y (.code y cc nL ret :: j_T) (j_rm d 0 0) (j_Pre g b n I P av) (j_Post g b n I' P r) 0 0 (fun q => b ≤ q)
theorem j_good {y : MethodName} {cc2 : ByteArray} {n2 : Nat} {r2 : Option FieldType} (hq : Cond.code y cc2 n2 r2 ∈ j_T) : GoodIn j_T (.code y cc2 n2 r2 :: j_T) := fun w hw => by
  rcases List.mem_cons.mp hw with rfl | h
  · exact ⟨hq, j_T_good _ hq⟩
  · exact ⟨h, j_T_good _ h⟩
theorem j_run {v : Option Value} {I' : j_M} {P' : j_R} {n' mc ms : Nat} {pc' : Nat} {st0 rest : List Value} {a : Array Value} (hpc : pc' = pc + 3)
    (hr : ∀ (H : Heap) (locs : List Loc) (ls : Array Slot), j_Rep g b n I P H → va_S (fun q => b ≤ q) s.heap H locs → j_ls ls nL lv → va_Run p l e R s m args below meth c H locs cells slots mc ms (F0 m pc ls st0) rest (j_Post g b n' I' P' v a) (fun q => b ≤ q))
    (kk : j_W p l e R s m args below meth c nL g b n' (cells + mc) (slots + ms) Q I' P' pc' lv (v.toList ++ rest)) : j_W p l e R s m args below meth c nL g b n cells slots Q I P pc lv st0 := by
  subst hpc
  intro H locs ls h1 h2 h3 T hT X
  obtain ⟨v2, st₀, t, T', L, h0, X', hL, e1, e2, ⟨hv, hp, hz, hk⟩, stp⟩ := hr H locs ls h1 h2 h3 T hT X
  have hv2 : v2 = v := Outcome.returned.inj hv
  subst hv2
  rw [h0] at hz hk
  obtain ⟨t2, a1, b1⟩ := kk T'.heap (locs ++ L) ls (by rw [e1]; exact hp)
    ⟨Nat.le_trans h2.1 (by rw [e1]; exact hz), fun q q1 q2 => by rw [e1, hk q (Nat.lt_of_lt_of_le q1 h2.1) q2]; exact h2.2.1 q q1 q2, fun q hq => by
      rcases List.mem_append.mp hq with h | h
      · exact h2.2.2 q h
      · exact hL q h⟩ h3 T' rfl X'
  exact ⟨t2, stp t2 a1, b1⟩
theorem j_pre {I P} {H : Heap} {av : List Value} (hK : j_K g b s) (h : j_Rep g b n I P H) : ∀ U : State, U.heap = H → s.WarmedH U.vm → j_Pre g b n I P av av.toArray U := fun U hU hW => ⟨rfl, by rw [hU]; exact h, hK.warm hW⟩
theorem j_callV (X : j_X p R s m args meth c g b d cc nL own ret) {C : String} {i d2 n2 ci N np c0 : Nat} {y : MethodName} {cc2 : ByteArray} {r2 : Option FieldType} {T : u_T} {As : List Value} {v : Option Value} {I' : j_M} (hC : j_cl[ci]? = some (C, T, N)) (hs : j_sh c0 = (0, ci, N)) (hc : c0 < n) (hq : Cond.code y cc2 n2 r2 ∈ j_T ∧ Cond.instanceMethod y ∈ j_T ∧ Cond.selects C y y ∈ j_T ∧ Cond.initialized C ∈ j_T) (hl : Cond.methodLink own i y ∈ j_T)
    (hy : y.cls = C ∧ y.cls ≠ "java/lang/invoke/MethodHandle" ∧ y.cls ≠ "java/lang/invoke/VarHandle" ∧ (parseMethodDescriptor y.desc).map (fun d => d.parameters.length) = some np) (hnp : As.length = np) (hd2 : d2 + 1 ≤ d) (hn2 : n2 ≤ 21) (hrm : (st.map fun v => v.category).sum ≤ 8) (hf : cells ≤ R.cells ∧ slots ≤ R.slots)
    (hM : j_Met l g b n P d2 y cc2 n2 r2 (.ref (b + c0) :: As) I I' v) (hd : decode cc pc = .ok (.invokevirtual i, 3)) {st0 : List Value} (h0 : st0 = As.reverse ++ .ref (b + c0) :: st) (kk : j_W p l e R s m args below meth c nL g b n cells slots Q I' P (pc + 3) lv (v.toList ++ st)) : j_W p l e R s m args below meth c nL g b n cells slots Q I P pc lv st0 := by
  subst h0
  refine j_run (a := (Value.ref (b + c0) :: As).toArray) (mc := 0) (ms := 0) rfl ?_ kk
  intro H locs ls h1 h2 h3
  have hP := j_cell h1 hc
  rw [j_en_obj hs] at hP
  have hfr := X.2.2.2.2.1
  have hlo := X.2.2.2.2.2
  refine va_runV (C := C) X.1 hM (cwV np X.1.2.2.2.2 ?_ rfl rfl rfl hy ⟨by show d2 + 1 ≤ _; omega, by show 8 + (n2 + 11) + 40 * d2 ≤ _; omega⟩) ⟨j_Pre_blind, va_recv X.2.2.2.1.1 hP (ci := ci) (q0 := 0) hC rfl, j_pre X.2.2.2.1 h1⟩ rfl hnp h3.1 rfl (lv_room hrm) hd hf
  intro w hw
  unfold wsV at hw
  rcases List.mem_append.mp hw with h | h
  · have hm : w ∈ j_T := by
      rcases List.mem_cons.mp h with rfl | h
      · exact hl
      rcases List.mem_cons.mp h with rfl | h
      · exact hq.2.1
      rcases List.mem_cons.mp h with rfl | h
      · exact hq.2.2.1
      rcases List.mem_cons.mp h with rfl | h
      · exact hq.2.2.2
      cases h
    exact ⟨hm, j_T_good _ hm⟩
  · exact j_good hq.1 w h
theorem j_callS (X : j_X p R s m args meth c g b d cc nL own ret) {i d2 n2 np : Nat} {y : MethodName} {cc2 : ByteArray} {r2 : Option FieldType} {As : List Value} {v : Option Value} {I' : j_M} (hq : Cond.code y cc2 n2 r2 ∈ j_T ∧ Cond.static y ∈ j_T ∧ Cond.initialized y.cls ∈ j_T) (hl : Cond.methodLink own i y ∈ j_T)
    (hy : y.cls ≠ "java/lang/invoke/MethodHandle" ∧ y.cls ≠ "java/lang/invoke/VarHandle" ∧ (parseMethodDescriptor y.desc).map (fun d => d.parameters.length) = some np) (hnp : As.length = np) (hd2 : d2 + 1 ≤ d) (hn2 : n2 ≤ 21) (hrm : (st.map fun v => v.category).sum ≤ 8) (hf : cells ≤ R.cells ∧ slots ≤ R.slots)
    (hM : j_Met l g b n P d2 y cc2 n2 r2 As I I' v) (hd : decode cc pc = .ok (.invokestatic i, 3)) {st0 : List Value} (h0 : st0 = As.reverse ++ st) (kk : j_W p l e R s m args below meth c nL g b n cells slots Q I' P (pc + 3) lv (v.toList ++ st)) : j_W p l e R s m args below meth c nL g b n cells slots Q I P pc lv st0 := by
  subst h0
  refine j_run (a := As.toArray) (mc := 0) (ms := 0) rfl ?_ kk
  intro H locs ls h1 h2 h3
  have hfr := X.2.2.2.2.1
  have hlo := X.2.2.2.2.2
  exact va_runS X.1 hM ⟨callB_of np X.1.2.2.2.2 (j_good hq.1) rfl rfl rfl (X.1.2.2.2.2 _ hq.2.2) (X.1.2.2.2.2 _ hl) hy ⟨by show d2 + 1 ≤ _; omega, by show 8 + (n2 + 11) + 40 * d2 ≤ _; omega⟩, X.1.2.2.2.2 _ hq.2.1⟩ ⟨j_Pre_blind, j_pre X.2.2.2.1 h1⟩ rfl hnp h3.1 rfl (lv_room hrm) hd hf
theorem j_callSN (X : j_X p R s m args meth c g b d cc nL own ret) {i d2 n2 np : Nat} {y : MethodName} {cc2 : ByteArray} {r2 : Option FieldType} {As : List Value} {v : Option Value} {I' : j_M} (hq : Cond.code y cc2 n2 r2 ∈ j_T ∧ Cond.static y ∈ j_T ∧ Cond.initialized y.cls ∈ j_T) (hl : (own, i, y) ∈ j_nest)
    (hy : y.cls ≠ "java/lang/invoke/MethodHandle" ∧ y.cls ≠ "java/lang/invoke/VarHandle" ∧ (parseMethodDescriptor y.desc).map (fun d => d.parameters.length) = some np) (hnp : As.length = np) (hd2 : d2 + 1 ≤ d) (hn2 : n2 ≤ 21) (hrm : (st.map fun v => v.category).sum ≤ 8) (hf : cells ≤ R.cells ∧ slots ≤ R.slots)
    (hM : j_Met l g b n P d2 y cc2 n2 r2 As I I' v) (hd : decode cc pc = .ok (.invokestatic i, 3)) {st0 : List Value} (h0 : st0 = As.reverse ++ st) (kk : j_W p l e R s m args below meth c nL g b n cells slots Q I' P (pc + 3) lv (v.toList ++ st)) : j_W p l e R s m args below meth c nL g b n cells slots Q I P pc lv st0 := by
  subst h0
  refine j_run (a := As.toArray) (mc := 0) (ms := 0) rfl ?_ kk
  intro H locs ls h1 h2 h3
  have hfr := X.2.2.2.2.1
  have hlo := X.2.2.2.2.2
  exact va_runSN X.1 hM ⟨va_cnB (host := "PleasureGarden") np X.1.2.2.2.2 (j_good hq.1) rfl rfl rfl (X.2.2.2.1.2.1 (own, i, y) hl) (X.1.2.2.2.2 _ hq.2.2) hy ⟨by show d2 + 1 ≤ _; omega, by show 8 + (n2 + 11) + 40 * d2 ≤ _; omega⟩, X.1.2.2.2.2 _ hq.2.1, trivial⟩ ⟨j_Pre_blind, j_pre X.2.2.2.1 h1⟩ rfl hnp h3.1 rfl (lv_room hrm) hd hf

/-- the locals at a method's entry -/
def j_av (nL : Nat) (av : List Value) : List (Option Value) := (av.flatMap (fun v => if v.category = 2 then [some v, none] else [some v])) ++ List.replicate (nL - (lg_sl av).length) none
theorem j_av_at : ∀ (av : List Value) (k : Nat) (pre : Nat) (v : Value), (av.flatMap (fun v => if v.category = 2 then [some v, none] else [some v]))[k]? = some (some v) → (pre + k, v) ∈ lv_args pre av
  | [], k, pre, v, h => by simp at h
  | w :: av, k, pre, v, h => by
    by_cases hc : w.category = 2
    · simp only [List.flatMap_cons, hc, if_true] at h
      rw [lv_args]
      match k, h with
      | 0, h => simp at h; subst h; exact List.mem_cons_self
      | 1, h => simp at h
      | k + 2, h =>
        refine List.mem_cons_of_mem _ ?_
        rw [if_pos hc]
        have := j_av_at av k (pre + 2) v (by simpa using h)
        rw [show pre + (k + 2) = pre + 2 + k by omega]
        exact this
    · simp only [List.flatMap_cons, hc, if_false] at h
      rw [lv_args]
      match k, h with
      | 0, h => simp at h; subst h; exact List.mem_cons_self
      | k + 1, h =>
        refine List.mem_cons_of_mem _ ?_
        rw [if_neg hc]
        have := j_av_at av k (pre + 1) v (by simpa using h)
        rw [show pre + (k + 1) = pre + 1 + k by omega]
        exact this
theorem j_enter {y : MethodName} {cc : ByteArray} {nL d mc ms : Nat} {ret : Option FieldType} {av : List Value} {Qc : Array Value → State → Outcome → State → Prop} (hy : plainFor y = true) (hlen : (lg_sl av).length ≤ nL) (lv : List (Option Value)) (hlv : j_av nL av = lv)
    (body : ∀ (p : Program) (e : Env) (R : Room) (s : State) (m : MethodId) (args : Array Value) (below : List Frame) (meth : Method) (c : Code), j_X p R s m args meth c g b d cc nL y.cls ret → meth.name = y.name → R.cells = mc → R.slots = ms → j_W p l e R s m args below meth c nL g b n 0 0 (MQ below Qc args s mc ms (fun q => b ≤ q)) I P 0 lv []) :
    Met l y (.code y cc nL ret :: j_T) (j_rm d mc ms) (j_Pre g b n I P av) Qc mc ms (fun q => b ≤ q) := by
  refine va_MetF (cc := cc) (maxL := nL) (ret := ret) hy rfl ?_
  intro p e s m args below meth c s₁ B hml hv
  obtain ⟨rfl, hR, hK⟩ := hv
  have hts := atoms_spec (ws := .code y cc nL ret :: j_T) B.pre
  have hown : s.vm.findClass y.cls = some m.cls := findClass_of_methodNamed B.named
  have hl := lv_entry av (n := nL) hlen
  rw [lg_entry_eq]
  refine body p e _ s m av.toArray below meth c ⟨⟨B.exec, B.bytes, hml, hown, fun w hw => hts w (List.mem_cons_of_mem _ hw)⟩, B.notSynchronized, B.returns, hK, Nat.le_refl _, Nat.le_refl _⟩ (name_of_methodNamed B.named B.method).1 rfl rfl s.heap [] _ hR va_S.rf ?_
  refine ⟨hl.1, hl.2.1, fun i v hi => ?_⟩
  rw [← hlv] at hi
  unfold j_av at hi
  by_cases hk : i < (av.flatMap (fun v => if v.category = 2 then [some v, none] else [some v])).length
  · rw [List.getElem?_append_left hk] at hi
    have := j_av_at av i 0 v hi
    rw [Nat.zero_add] at this
    exact hl.2.2 (i, v) this
  · rw [List.getElem?_append_right (by omega)] at hi
    have h9 := List.eq_of_mem_replicate (List.mem_of_getElem? hi)
    cases h9
end JW2

/-! from the law's entry to its loop: the tables, the constructors; what is left is pure -/
theorem j_arr {ty : FieldType} {args : Array Value} {s : State} (h : (Cond.arrayClass ty).before args s = true) : ∃ cA, ArrOfT s cA ty ∧ s.vm.findClass ("[" ++ ty.toString) = some cA := by
  obtain ⟨cA, kA, comp, h1, h2, h3⟩ := Cond.arrayClass_spec h
  exact ⟨cA, fun n z => ⟨fun k h => (by cases h), kA, h2, comp, h3⟩, h1⟩
theorem j_K_start {bb : Nat} {s : State} (hts : ∀ w ∈ lw_tbl, w.before #[Value.ref bb] s = true) (hgv : (Jvm.Cond.and given_1 narrow_1).before #[Value.ref bb] s = true) : ∃ g : j_G, g.2.2.2.2 = s.heap ∧ j_K g s.heap.size s ∧ j_AO s := by
  have htT : ∀ w ∈ j_T, w.before #[Value.ref bb] s = true := fun w hw => hts w (List.mem_filter.mp hw).1
  have hn := flat_of_before _ hgv
  have hA : ∀ a : Nat, a < s.heap.size → ¬ (fun q => s.heap.size ≤ q) a := fun a ha => Nat.not_le.mpr ha
  obtain ⟨c0, i0, k0⟩ := u_known (C := jR_G) (T := jT_G) (N := 15) (n := 15) htT ji_G (htT (.instantiable "PleasureGarden" 15) jqk_G)
  obtain ⟨c1, i1, k1⟩ := u_known (C := jR_Gr) (T := jT_Gr) (N := 5) (n := 5) htT ji_Gr (htT (.instantiable "PleasureGarden$Grounds" 5) jqk_Gr)
  obtain ⟨c2, i2, k2⟩ := u_known (C := jR_Sk) (T := jT_Sk) (N := 2) (n := 2) htT ji_Sk (htT (.instantiable "PleasureGarden$Sky" 2) jqk_Sk)
  obtain ⟨c3, i3, k3⟩ := u_known (C := jR_Gu) (T := jT_Gu) (N := 2) (n := 2) htT ji_Gu (htT (.instantiable "PleasureGarden$Guests" 2) jqk_Gu)
  obtain ⟨c4, i4, k4⟩ := u_known (C := jR_Pa) (T := jT_Pa) (N := 12) (n := 12) htT ji_Pa (htT (.instantiable "PleasureGarden$Party" 12) jqk_Pa)
  obtain ⟨c5, i5, k5⟩ := u_known (C := jR_Wa) (T := jT_Wa) (N := 9) (n := 9) htT ji_Wa (htT (.instantiable "PleasureGarden$Watch" 9) jqk_Wa)
  obtain ⟨c6, i6, k6⟩ := u_known (C := jR_La) (T := jT_La) (N := 6) (n := 6) htT ji_La (htT (.instantiable "PleasureGarden$Lamps" 6) jqk_La)
  obtain ⟨c7, i7, k7⟩ := u_known (C := jR_Bo) (T := jT_Bo) (N := 4) (n := 4) htT ji_Bo (htT (.instantiable "PleasureGarden$Boxes" 4) jqk_Bo)
  obtain ⟨c8, i8, k8⟩ := u_known (C := jR_Ki) (T := jT_Ki) (N := 8) (n := 8) htT ji_Ki (htT (.instantiable "PleasureGarden$Kitchen" 8) jqk_Ki)
  obtain ⟨c9, i9, k9⟩ := u_known (C := jR_Pr) (T := jT_Pr) (N := 8) (n := 8) htT ji_Pr (htT (.instantiable "PleasureGarden$Prices" 8) jqk_Pr)
  obtain ⟨c10, i10, k10⟩ := u_known (C := jR_Re) (T := jT_Re) (N := 6) (n := 6) htT ji_Re (htT (.instantiable "PleasureGarden$Reader" 6) jqk_Re)
  obtain ⟨c11, i11, k11⟩ := u_known (C := jR_Le) (T := jT_Le) (N := 4) (n := 4) htT ji_Le (htT (.instantiable "PleasureGarden$Ledger" 4) jqk_Le)
  obtain ⟨c12, i12, k12⟩ := u_known (C := jR_M) (T := jT_M) (N := 71) (n := 71) htT ji_M (htT (.instantiable "PleasureGardenModel" 71) jqk_M)
  obtain ⟨dC, dI, hKc⟩ : ∃ (dC : Nat → ClassId) (dI : Nat → Nat → Nat), ∀ (k : Nat) (q : vw_C), j_cl[k]? = some q → u_Kn s q.1 q.2.1 q.2.2 (dC k) (dI k) := by
    refine ⟨fun k => (if k = 0 then c0 else (if k = 1 then c1 else (if k = 2 then c2 else (if k = 3 then c3 else (if k = 4 then c4 else (if k = 5 then c5 else (if k = 6 then c6 else (if k = 7 then c7 else (if k = 8 then c8 else (if k = 9 then c9 else (if k = 10 then c10 else (if k = 11 then c11 else c12)))))))))))), fun k => (if k = 0 then i0 else (if k = 1 then i1 else (if k = 2 then i2 else (if k = 3 then i3 else (if k = 4 then i4 else (if k = 5 then i5 else (if k = 6 then i6 else (if k = 7 then i7 else (if k = 8 then i8 else (if k = 9 then i9 else (if k = 10 then i10 else (if k = 11 then i11 else i12)))))))))))), ?_⟩
    intro k q hq
    match k, hq with
    | 0, hq => cases hq; exact k0
    | 1, hq => cases hq; exact k1
    | 2, hq => cases hq; exact k2
    | 3, hq => cases hq; exact k3
    | 4, hq => cases hq; exact k4
    | 5, hq => cases hq; exact k5
    | 6, hq => cases hq; exact k6
    | 7, hq => cases hq; exact k7
    | 8, hq => cases hq; exact k8
    | 9, hq => cases hq; exact k9
    | 10, hq => cases hq; exact k10
    | 11, hq => cases hq; exact k11
    | 12, hq => cases hq; exact k12
    | k + 13, hq => simp [j_cl] at hq
  obtain ⟨a0, hr0, ha0⟩ := j_arr (htT _ jqa_int)
  obtain ⟨a1, hr1, ha1⟩ := j_arr (htT _ jqa_boolean)
  obtain ⟨a2, hr2, ha2⟩ := j_arr (htT _ jqa_byte)
  have hoP := hts _ jqo_Pa
  have hoI := hts _ jqo_ints
  obtain ⟨pcomp, a3, pk, pq1, pq2, pq3, pq4, pq5⟩ := Cond.arrayOver_spec hoP
  obtain ⟨icomp, a4, ik, iq1, iq2, iq3, iq4, iq5⟩ := arrayOver_specB hoI
  have hKt : va_K (dC, dI) j_cl (j_ty (fun t => if t = 0 then a0 else if t = 1 then a1 else if t = 2 then a2 else if t = 3 then a3 else a4)) s := by
    refine ⟨hKc, fun k q hk => ?_⟩
    match k, hk with
    | 0, hk => cases hk; exact ⟨hr0, ha0⟩
    | 1, hk => cases hk; exact ⟨hr1, ha1⟩
    | 2, hk => cases hk; exact ⟨hr2, ha2⟩
    | 3, hk => cases hk; exact ⟨fun n z => ⟨fun k h => (by cases h), pk, pq3, pcomp, pq4⟩, pk, pcomp, pq3, pq4, pq1, pq5⟩
    | 4, hk => cases hk; exact ⟨fun n z => ⟨fun k h => (by cases h), ik, iq3, icomp, iq4⟩, iq5⟩
    | k + 5, hk => simp [j_ty] at hk
  obtain ⟨adK, adV, hvs, hev⟩ := vk_Sof (args := #[Value.ref bb]) (s := s) (N := 1) (tm := fun _ => .string "PleasureGarden$Reader" 70) (len := [8]) (byt := [[112, 109, 114, 110, 103, 115, 99, 116]]) (A := fun q => s.heap.size ≤ q)
    (fun i hi => by obtain rfl : i = 0 := by omega
                    decide)
    (fun i hi => hn _ (by decide +kernel)) (fun i hi => hn _ (by decide +kernel)) (fun i hi => hn _ (by decide +kernel))
    (fun i hi => by obtain rfl : i = 0 := by omega
                    exact hn _ (by decide +kernel))
    (fun i hi j hj => by
      obtain rfl : i = 0 := by omega
      have hj : j < 8 := hj
      match j, hj with
      | 0, _ => exact hn _ (by decide +kernel)
      | 1, _ => exact hn _ (by decide +kernel)
      | 2, _ => exact hn _ (by decide +kernel)
      | 3, _ => exact hn _ (by decide +kernel)
      | 4, _ => exact hn _ (by decide +kernel)
      | 5, _ => exact hn _ (by decide +kernel)
      | 6, _ => exact hn _ (by decide +kernel)
      | 7, _ => exact hn _ (by decide +kernel)
      | j + 8, h => omega)
    (fun i j hi hj hij => absurd (show i = j by omega) hij) hA
  refine ⟨((dC, dI), _, adK 0, adV 0, s.heap), rfl, ⟨hKt, fun q hq => va_Nw.of rfl (hts _ (j_nest_in q hq)), vk_R.of (A := #[Value.ref bb]) ?_ ?_, ?_, ?_⟩, ⟨hoP, hoI⟩⟩
  · exact hts (.stringRef "PleasureGarden$Reader" 70 "pmrngsct") (List.mem_of_getElem? (i := 595) (by decide +kernel))
  · exact hev 0 (by decide)
  · refine ⟨fun i hi => ?_, fun i j hi hj _ => by omega⟩
    obtain rfl : i = 0 := by omega
    exact hvs.1 0 (by decide)
  · exact va_Zof (hts _ (List.mem_of_getElem? (i := 609) (by decide +kernel))) (htT _ jqn_St) (va_eqi (hn _ (by decide +kernel))) hA
theorem j_Rep_0 {g : j_G} {s : State} (hg : g.2.2.2.2 = s.heap) : j_Rep g s.heap.size 0 jI0 (fun _ _ => none) s.heap := ⟨rfl, fun q _ => by rw [hg], fun k q hk => by simp [j_ws] at hk⟩
theorem j_If_eq {I : j_M} (h1 : ∀ c, c < 260 → I c = jIf c) (h2 : ∀ c, 260 ≤ c → I c = jI0 c) : I = jIf := by
  funext c
  rcases Nat.lt_or_ge c 260 with h | h
  · exact h1 c h
  · rw [h2 c h, jIf_plain (by omega)]
theorem jd_L_law_0 : decode code 0 = .ok (.new 7, 3) := by decide +kernel
theorem jd_L_law_3 : decode code 3 = .ok (.dup, 1) := by decide +kernel
theorem jd_L_law_4 : decode code 4 = .ok (.invokespecial 9, 3) := by decide +kernel
theorem jd_L_law_7 : decode code 7 = .ok (.astore_n 1, 1) := by decide +kernel
theorem jd_L_law_8 : decode code 8 = .ok (.new 10, 3) := by decide +kernel
theorem jd_L_law_11 : decode code 11 = .ok (.dup, 1) := by decide +kernel
theorem jd_L_law_12 : decode code 12 = .ok (.invokespecial 12, 3) := by decide +kernel
theorem jd_L_law_15 : decode code 15 = .ok (.astore_n 2, 1) := by decide +kernel
theorem jd_L_law_16 : decode code 16 = .ok (.iconst 0, 1) := by decide +kernel
theorem jd_L_law_17 : decode code 17 = .ok (.istore_n 3, 1) := by decide +kernel
set_option maxRecDepth 100000 in
set_option maxHeartbeats 4000000 in
/-- what is left is pure: the law's loop over the memory behind the constructors answers 1 -/
theorem whole_open (hpure : ∀ (L : Nat) (xs : Nat → Int32), L ≤ 2048 → ∃ (F : Nat) (I' : j_M), f_L_law_18 F L xs 0 jIf = some (1, I')) {p : Program} {e : Env} {s : State} {m : MethodId} {below : List Frame} {meth : Method} {c : Code} (l : Launch) {b L : Nat} {xs : Nat → Int32} (hL : L ≤ 2048) (C0 : lw_At p s m meth c b L xs) : W p l e room_1 s m #[Value.ref b] below meth c s.heap [] 0 0 (lw_Z below #[Value.ref b] s) (entryFrame m ([Value.ref b] : List Value).toArray 4) := by
  obtain ⟨hx, hb, hr, hml, hown, hts, hX, hbl, hlocks, hgv⟩ := C0
  obtain ⟨g, hg, hK, hO⟩ := j_K_start hts hgv
  have X : j_X p room_1 s m #[Value.ref b] meth c g s.heap.size 2000 code 4 "PleasureGardenLaw" (some .boolean) := ⟨⟨hx, hb, hml, hown, fun w hw => hts w (List.mem_filter.mp hw).1⟩, hlocks, hr, hK, by decide, by decide⟩
  have hl := lv_entry ([.ref b]) (n := 4) (Nat.le_of_ble_eq_true rfl)
  rw [lg_entry_eq]
  generalize (lg_sl ([.ref b]) ++ List.replicate (4 - (lg_sl ([.ref b])).length) Slot.unset).toArray = ls at hl ⊢
  have hls : j_ls ls 4 [some (.ref b), none, none, none] := by
    refine ⟨hl.1, hl.2.1, fun i v hi => ?_⟩
    match i, hi with
    | 0, hi => simp at hi; subst hi; exact hl.2.2 (0, .ref b) List.mem_cons_self
    | 1, hi => simp at hi
    | 2, hi => simp at hi
    | 3, hi => simp at hi
    | i + 4, hi => simp at hi
  have hB : j_Bl 0 jI0 (fun _ _ => none) := ⟨fun _ _ => rfl, fun _ _ => rfl⟩
  refine (show j_W p l e room_1 s m #[Value.ref b] below meth c 4 g s.heap.size 0 0 0 (lw_Z below #[Value.ref b] s) jI0 (fun _ _ => none) 0 [some (.ref b), none, none, none] [] from ?_) s.heap [] ls (j_Rep_0 hg) va_S.rf hls
  refine j_new X hB jt_G jto_G ji_G jc_G js_0 jlk_L_7 jqk_G jqn_G (by decide) (by decide) (by decide) jd_L_law_0 ?_
  refine j_dup X jd_L_law_3 rfl ?_
  refine j_callI (As := []) (st := [.ref (s.heap.size + 0)]) (c0 := 0) (t := 0) X hO hB ⟨jqc_G_init, jqi_G_init, jqn_G⟩ jlm_L_9 rfl jhi_G_init rfl (by decide) (by decide) (Nat.le_of_ble_eq_true rfl) ⟨by decide, by decide⟩ (K_G_init l g s.heap.size) jd_L_law_4 rfl (fun I1 P1 hcf1 => ?_)
  refine j_astore_n (lv' := [some (.ref b), some (.ref (s.heap.size + 0)), none, none]) X jd_L_law_7 rfl (by decide) rfl ?_
  refine j_new X hcf1.1 jt_M jto_M ji_M jc_M js_215 jlk_L_10 jqk_M jqn_M (by decide) (by decide) (by decide) jd_L_law_8 ?_
  refine j_dup X jd_L_law_11 rfl ?_
  refine j_callI (As := []) (st := [.ref (s.heap.size + 215)]) (c0 := 215) (t := 215) X hO hcf1.1 ⟨jqc_M_init, jqi_M_init, jqn_M⟩ jlm_L_12 rfl jhi_M_init rfl (by decide) (by decide) (Nat.le_of_ble_eq_true rfl) ⟨by decide, by decide⟩ (K_M_init l g s.heap.size) jd_L_law_12 rfl (fun I2 P2 hcf2 => ?_)
  refine j_astore_n (lv' := [some (.ref b), some (.ref (s.heap.size + 0)), some (.ref (s.heap.size + 215)), none]) X jd_L_law_15 rfl (by decide) rfl ?_
  refine j_iconst (v := 0) X jd_L_law_16 (by decide) ?_
  refine j_istore_n (lv' := [some (.ref b), some (.ref (s.heap.size + 0)), some (.ref (s.heap.size + 215)), some (.int 0)]) X jd_L_law_17 rfl (by decide) rfl ?_
  have hI2 : I2 = jIf := j_If_eq (fun c hc => (Nat.lt_or_ge c 215).elim (fun h => (hcf2.2.1 c h).1.trans (hcf1.2.2.2 c (Nat.zero_le c) h)) (fun h => hcf2.2.2.2 c h hc)) hcf2.1.1
  subst hI2
  have hF : j_Fx 0 260 P2 := (hcf1.2.2.1.keep (fun c _ h => (hcf2.2.1 c h).2)).join hcf2.2.2.1
  obtain ⟨F, I', hp⟩ := hpure L xs hL
  exact k_L_law_18 (F := F) (r := (1, I')) hF X (by rw [hg]; exact hX) hbl rfl hp rfl

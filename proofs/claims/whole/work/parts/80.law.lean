/-! the law's loop -/
theorem R1_K {F : Nat} {s : Nat → Nat} {J K K2 : j_M} (h : R1 F s J K) (e : ∀ c, 215 ≤ c → K2 c = K c) : R1 F s J K2 := by
  obtain ⟨hr, h1, h2⟩ := h
  refine ⟨?_, h1, h2⟩
  unfold RR at hr ⊢
  simp only [e 215 (by decide), e 216 (by decide), e 217 (by decide), e 218 (by decide), e 219 (by decide), e 220 (by decide), e 222 (by decide), e 223 (by decide), e 224 (by decide), e 225 (by decide), e 226 (by decide), e 227 (by decide), e 228 (by decide), e 229 (by decide), e 230 (by decide), e 231 (by decide), e 232 (by decide), e 233 (by decide), e 234 (by decide), e 235 (by decide), e 236 (by decide), e 237 (by decide), e 239 (by decide), e 240 (by decide), e 241 (by decide), e 242 (by decide), e 243 (by decide), e 244 (by decide), e 245 (by decide), e 246 (by decide), e 247 (by decide), e 248 (by decide), e 249 (by decide), e 250 (by decide), e 251 (by decide), e 255 (by decide), e 256 (by decide), e 257 (by decide), e 258 (by decide), e 259 (by decide)]
  exact hr
theorem R1_J {F : Nat} {s : Nat → Nat} {J K J2 : j_M} (h : R1 F s J K) (e : ∀ c, c < 215 → J2 c = J c) : R1 F s J2 K := by
  obtain ⟨hr, h1, h2⟩ := h
  have w : ∀ lo hi, lo + hi ≤ 215 → vw lo hi J2 = vw lo hi J := fun lo hi hl => by
    funext a b
    unfold vw
    by_cases c : a < hi
    · rw [if_pos c, if_pos c, e _ (by omega)]
    · rw [if_neg c, if_neg c]
  refine ⟨?_, by rw [w 43 100 (by decide)]; exact h1, h2⟩
  unfold RR at hr ⊢
  simp only [e 0 (by decide), e 1 (by decide), e 2 (by decide), e 3 (by decide), e 38 (by decide), e 39 (by decide), e 40 (by decide), e 41 (by decide), e 143 (by decide), e 144 (by decide), e 145 (by decide), e 146 (by decide), e 147 (by decide), e 148 (by decide), e 149 (by decide), e 150 (by decide), e 151 (by decide), e 152 (by decide), e 194 (by decide), e 195 (by decide), e 196 (by decide), e 197 (by decide), e 198 (by decide), e 199 (by decide), e 200 (by decide), e 201 (by decide), e 202 (by decide), e 203 (by decide), e 204 (by decide), e 205 (by decide), e 206 (by decide), e 207 (by decide), e 211 (by decide), e 212 (by decide), e 213 (by decide), e 214 (by decide), w 154 40 (by decide), w 22 16 (by decide), w 43 100 (by decide), w 5 16 (by decide)]
  exact hr
theorem law_op {F : Nat} {s : Nat → Nat} {I : j_M} {g m : j_M → Option (Int32 × j_M)} {k : j_M → Option (Int32 × j_M)} {Po : Int32 → j_M → Prop} (hop : OP F g m) (hR : R1 F s I I) (hs : s 13 < 512) (hk : ∀ s' I', s' 13 = s 13 + 1 → R1 F s' I' I' → j_wpo (k I') Po) : j_wpo (j_bd (g I) (fun v I5 => j_bd (m I5) (fun w I7 => (if v = w then k I7 else some (0, I7))))) Po := by
  obtain ⟨v0, J0, w0, K0, e1, -, -, f1, -⟩ := hop s I I hs hR
  obtain ⟨v, J1, w, K1, e3, e4, rfl, f3, f4, s', h13, hR'⟩ := hop s I J0 hs (R1_K hR f1)
  rw [e1] at e3
  have ev : v0 = v := congrArg Prod.fst (Option.some.inj e3)
  have eJ : J0 = J1 := congrArg Prod.snd (Option.some.inj e3)
  subst ev
  subst eJ
  rw [e1, j_bdS, e4, j_bdS, if_pos rfl]
  exact hk s' K1 h13 (R1_J hR' f4)
theorem jIf_z {c : Nat} (h : (c < 22 ∨ 38 ≤ c) ∧ (c < 43 ∨ 143 ≤ c) ∧ (c < 154 ∨ 194 ≤ c) ∧ c ≠ 150 ∧ c ≠ 198 ∧ c ≠ 208 ∧ c ≠ 215) : jIf c = fun _ => 0 := by
  rw [jIf_plain h]
  funext k
  unfold jI0
  rw [if_neg (by omega)]
theorem R1_start (F : Nat) : R1 F (fun k => if k = 14 then 1 else 0) jIf jIf := by
  have z : ∀ {i : Nat} {C : Prop}, i < 0 → C := fun h => absurd h (Nat.not_lt_zero _)
  have zz : ∀ {c d : Nat}, ((c < 22 ∨ 38 ≤ c) ∧ (c < 43 ∨ 143 ≤ c) ∧ (c < 154 ∨ 194 ≤ c) ∧ c ≠ 150 ∧ c ≠ 198 ∧ c ≠ 208 ∧ c ≠ 215) → ((d < 22 ∨ 38 ≤ d) ∧ (d < 43 ∨ 143 ≤ d) ∧ (d < 154 ∨ 194 ≤ d) ∧ d ≠ 150 ∧ d ≠ 198 ∧ d ≠ 208 ∧ d ≠ 215) → jIf c = jIf d := fun h1 h2 => (jIf_z h1).trans (jIf_z h2).symm
  refine ⟨?_, fun i hi => z hi, rfl⟩
  exact ⟨rfl, rfl, (by decide), rfl, rfl, (by decide), rfl, rfl, (by decide), rfl, rfl, (by decide), rfl, rfl, rfl, (by decide), rfl, rfl, (by decide), rfl, rfl, (by decide), rfl, rfl, (by decide), rfl, rfl, (by decide), rfl, rfl, (by decide), rfl, rfl, (by decide), rfl, rfl, (by decide), rfl, rfl, (by decide), rfl, rfl, (by decide), rfl, rfl, rfl, rfl, rfl, rfl, (zz (by decide) (by decide)), (zz (by decide) (by decide)), (zz (by decide) (by decide)), (zz (by decide) (by decide)), (zz (by decide) (by decide)), (zz (by decide) (by decide)), (zz (by decide) (by decide)), (zz (by decide) (by decide)), (zz (by decide) (by decide)), (zz (by decide) (by decide)), (zz (by decide) (by decide)), (zz (by decide) (by decide)), (zz (by decide) (by decide)), (zz (by decide) (by decide)), (zz (by decide) (by decide)), (zz (by decide) (by decide)), (zz (by decide) (by decide)), (by
    refine ⟨fun _ _ => 0, p_dir0 (fun _ _ => 0), fun _ _ => Nat.zero_le _, fun _ _ _ => rfl, fun a b ha hb => ⟨?_, ?_, ?_⟩, ⟨fun a ha => z ha, fun a b ha => z ha, fun a b c ha => z ha⟩, fun _ _ _ => rfl⟩
    · rw [← vw_at (lo := 5) (I := jIf) ha, jIf_z (by omega)]; rfl
    · rw [jIf_z (c := 218) (by decide)]; rfl
    · rw [← vw_at (lo := 22) (I := jIf) ha]
      unfold jIf p_dir0
      rw [if_pos (by omega), if_pos hb, Nat.add_sub_cancel_left]
      by_cases e : b = a
      · rw [if_pos e, if_pos e.symm]; rfl
      · rw [if_neg e, if_neg (fun q => e q.symm), if_pos rfl]; rfl), (fun t => Or.inl (by rw [jIf_z (by decide)])), (fun m hm => by rw [jIf_z (c := 39) (by decide)]; exact ⟨Or.inl rfl, fun q => absurd (show (0 : Int32) = 1 from q) (by decide), fun ⟨k, hk, _⟩ => z hk⟩), (fun i hi => by rw [← vw_at (lo := 43) (I := jIf) hi]; unfold jIf; rw [if_neg (by omega), if_pos (by omega), if_pos rfl, Nat.add_sub_cancel_left]), (fun i hi => z hi), (fun i hi => z hi), (fun i hi => z hi), (fun i hi => z hi), (fun p hp => z hp), (fun i hi => z hi), (fun i hi => z hi), (Nat.zero_le _), (fun p y1 y2 y3 => absurd rfl y3), (fun i hi => z hi), (by
    refine ⟨fun _ => 0, fun _ => 0, fun _ => 0, fun a b => if a = b then 0 else 10000000, fun k hk => z hk, fun a b ha hb => ?_, fun a ha => if_pos rfl, fun a b ha hb => ?_, fun a ha k hk => z hk⟩
    · rw [← vw_at (lo := 154) (I := jIf) ha]
      unfold jIf
      rw [if_neg (by omega), if_neg (by omega), if_pos (by omega), if_pos hb, Nat.add_sub_cancel_left]
      dsimp only
      by_cases e : b = a
      · rw [if_pos e, if_pos e.symm]; rfl
      · rw [if_neg e, if_neg (show ¬ a = b from fun q => e q.symm)]; rfl
    · dsimp only
      by_cases e : a = b
      · subst e
        rw [if_pos rfl]
        exact ⟨by omega, Or.inr (fun f hf => by omega)⟩
      · rw [if_neg e]
        exact ⟨Nat.le_refl _, Or.inl rfl⟩), (fun i hi => z hi), (Or.inl ⟨rfl, rfl⟩), (fun i hi => z hi), (fun t => by rw [jIf_z (by decide)]; exact (show (0 : Int32).toInt8.toInt32 = 0 by decide)), (fun i hi => z hi), (fun i hi => z hi), (fun i hi => z hi), (fun i hi => z hi), (Nat.zero_le _)⟩
theorem whole_pure : ∀ (L : Nat) (xs : Nat → Int32), L ≤ 2048 → ∃ (F : Nat) (I' : j_M), f_L_law_18 F L xs 0 jIf = some (1, I') := by
  intro L xs hL
  suffices H : ∀ F, 50000000 < F → j_wpo (f_L_law_18 F L xs 0 jIf) (fun v _ => v = 1) by
    obtain ⟨v, I', e, rfl⟩ := H 50000001 (by omega)
    exact ⟨50000001, I', e⟩
  intro F hF2
  have hF : 20000000 < F := by omega
  unfold f_L_law_18
  refine j_it_wp (Inv := fun r q => ∃ i s I, q = (nI (4 * i), I) ∧ R1 F s I I ∧ s 13 ≤ i ∧ 513 ≤ r + i ∧ i ≤ 512) ?_ F 513 _ (by omega) ⟨0, _, jIf, rfl, R1_start F, by decide, by omega, by omega⟩
  intro r q again hq hag
  obtain ⟨i, s, I, rfl, hR, h13, hri, hi5⟩ := hq
  dsimp only
  unfold f_L_law_18b
  by_cases cE : L < 4 * i + 4
  · refine wpo_pos ?_ (wpo_some rfl)
    by_cases c4 : L < 4
    · exact Int32.lt_of_lt_of_le (pk_sneg (a := L) (b := 4) (by decide) c4) (nI_pos' (by omega))
    · rw [show (4 : Int32) = nI 4 from rfl, pk_sub (by omega)]
      exact nI_lt (by omega) (by omega)
  have n4 : ¬ nI L - 4 < nI (4 * i) := by
    rw [show (4 : Int32) = nI 4 from rfl, pk_sub (by omega)]
    exact nI_nlt (by omega) (by omega)
  have hs : s 13 < 512 := by omega
  have e2 : nI (4 * i) + 2 = nI (4 * i + 2) := nI_add (4 * i) 2
  have e3 : nI (4 * i) + 3 = nI (4 * i + 3) := nI_add (4 * i) 3
  have o0 : j_ok (nI (4 * i)) L = true := j_ok_nI (by omega) (by omega)
  have o1 : j_ok (nI (4 * i + 1)) L = true := j_ok_nI (by omega) (by omega)
  have o2 : j_ok (nI (4 * i + 2)) L = true := j_ok_nI (by omega) (by omega)
  have o3 : j_ok (nI (4 * i + 3)) L = true := j_ok_nI (by omega) (by omega)
  have nx0 : ∀ s' I', s' 13 ≤ s 13 + 1 → R1 F s' I' I' → j_wpo (f_L_law_1230 F L xs (fun x3 I => again (x3, I)) (nI (4 * i)) I') (fun v _ => v = 1) := fun s' I' y1 y2 => by
    unfold f_L_law_1230
    rw [j_letE, show nI (4 * i) + 4 = nI (4 * (i + 1)) from nI_add (4 * i) 4]
    exact hag _ (r - 1) (by omega) ⟨i + 1, s', I', rfl, y2, by omega, by omega, by omega⟩
  have nx : ∀ s' I', s' 13 = s 13 + 1 → R1 F s' I' I' → j_wpo (f_L_law_1230 F L xs (fun x3 I => again (x3, I)) (nI (4 * i)) I') (fun v _ => v = 1) := fun s' I' y1 y2 => nx0 s' I' (by omega) y2
  refine wpo_neg n4 ?_
  simp only [nI_1, e2, e3, o0, o1, o2, o3, if_true, j_letE]
  refine wpo_ite (fun _ => law_op (op_place F _ _) hR hs nx) (fun _ => ?_)
  refine wpo_ite (fun _ => law_op (op_walk F hF _ _ _) hR hs nx) (fun _ => ?_)
  refine wpo_ite (fun _ => law_op (op_way F hF _ _) hR hs nx) (fun _ => ?_)
  refine wpo_ite (fun _ => law_op (op_rain F hF _ _) hR hs nx) (fun _ => ?_)
  refine wpo_ite (fun _ => law_op (op_sell F hF _ _) hR hs nx) (fun _ => ?_)
  refine wpo_ite (fun _ => law_op (op_enter F hF _ _) hR hs nx) (fun _ => ?_)
  refine wpo_ite (fun _ => law_op (op_go F hF _ _) hR hs nx) (fun _ => ?_)
  refine wpo_ite (fun _ => law_op (op_leave F hF _) hR hs nx) (fun _ => ?_)
  refine wpo_ite (fun _ => law_op (op_party F _ _) hR hs nx) (fun _ => ?_)
  refine wpo_ite (fun _ => law_op (op_heads F hF _) hR hs nx) (fun _ => ?_)
  refine wpo_ite (fun _ => law_op (op_minutes F hF _) hR hs nx) (fun _ => ?_)
  refine wpo_ite (fun _ => law_op (op_lamp F _) hR hs nx) (fun _ => ?_)
  refine wpo_ite (fun _ => law_op (op_fuse F hF _ _ _) hR hs nx) (fun _ => ?_)
  refine wpo_ite (fun _ => law_op (op_light F hF2 _ _) hR hs nx) (fun _ => ?_)
  refine wpo_ite (fun _ => law_op (op_burns F _) hR hs nx) (fun _ => ?_)
  refine wpo_ite (fun _ => law_op (op_dark F hF) hR hs nx) (fun _ => ?_)
  refine wpo_ite (fun _ => law_op (op_spent F hF) hR hs nx) (fun _ => ?_)
  refine wpo_ite (fun _ => law_op (op_best F hF2 _) hR hs nx) (fun _ => ?_)
  refine wpo_ite (fun _ => law_op (op_box F _ _) hR hs nx) (fun _ => ?_)
  refine wpo_ite (fun _ => law_op (op_let F hF _ _) hR hs nx) (fun _ => ?_)
  refine wpo_ite (fun _ => law_op (op_rise F hF _) hR hs nx) (fun _ => ?_)
  refine wpo_ite (fun _ => law_op (op_in F hF _) hR hs nx) (fun _ => ?_)
  refine wpo_ite (fun _ => law_op (op_ham F _) hR hs nx) (fun _ => ?_)
  refine wpo_ite (fun _ => law_op (op_rule F _ _) hR hs nx) (fun _ => ?_)
  refine wpo_ite (fun _ => law_op (op_order F _ _) hR hs nx) (fun _ => ?_)
  refine wpo_ite (fun _ => law_op (op_feed F hF _ _) hR hs nx) (fun _ => ?_)
  refine wpo_ite (fun _ => law_op (op_price F hF _ _) hR hs nx) (fun _ => ?_)
  refine wpo_ite (fun _ => law_op (op_inForce F hF _ _ _) hR hs nx) (fun _ => ?_)
  refine wpo_ite (fun _ => law_op (op_gives F hF _ _ _) hR hs nx) (fun _ => ?_)
  refine wpo_ite (fun _ => law_op (op_close F hF) hR hs nx) (fun _ => ?_)
  refine wpo_ite (fun _ => law_op (op_night F _ _) hR hs nx) (fun _ => ?_)
  refine wpo_ite (fun _ => law_op (op_foretold F hF _) hR hs nx) (fun _ => ?_)
  refine wpo_ite (fun _ => law_op (op_stolen F _ _) hR hs nx) (fun _ => ?_)
  refine wpo_ite (fun _ => law_op (op_near F hF _) hR hs nx) (fun _ => ?_)
  refine wpo_ite (fun _ => law_op (op_doubt F hF _) hR hs nx) (fun _ => ?_)
  refine wpo_ite (fun _ => law_op (op_count F hF _) hR hs nx) (fun _ => ?_)
  exact nx0 s I (by omega) hR

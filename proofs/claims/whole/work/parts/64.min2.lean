/-! minutes: rain sends all to what is covered -/
def n_bs (cov : Nat → Int32) (D : Nat → Nat) : Nat → Nat
  | 0 => 0
  | k + 1 => if cov (k + 1) = 0 then n_bs cov D k else if 1000000 ≤ D (k + 1) then n_bs cov D k else if n_bs cov D k = 0 then k + 1 else if D (n_bs cov D k) ≤ D (k + 1) then n_bs cov D k else k + 1
theorem bs_inv (cov : Nat → Int32) (D : Nat → Nat) : ∀ k, n_bs cov D k ≤ k ∧ (n_bs cov D k ≠ 0 → cov (n_bs cov D k) ≠ 0 ∧ D (n_bs cov D k) < 1000000)
  | 0 => ⟨Nat.le_refl _, fun h => absurd rfl h⟩
  | k + 1 => by
    obtain ⟨h1, h2⟩ := bs_inv cov D k
    have keep : n_bs cov D k ≤ k + 1 ∧ (n_bs cov D k ≠ 0 → cov (n_bs cov D k) ≠ 0 ∧ D (n_bs cov D k) < 1000000) := ⟨by omega, h2⟩
    rw [n_bs]
    by_cases c1 : cov (k + 1) = 0
    · rw [if_pos c1]; exact keep
    · rw [if_neg c1]
      by_cases c2 : 1000000 ≤ D (k + 1)
      · rw [if_pos c2]; exact keep
      · have new : k + 1 ≤ k + 1 ∧ (k + 1 ≠ 0 → cov (k + 1) ≠ 0 ∧ D (k + 1) < 1000000) := ⟨Nat.le_refl _, fun _ => ⟨c1, by omega⟩⟩
        rw [if_neg c2]
        by_cases c3 : n_bs cov D k = 0
        · rw [if_pos c3]; exact new
        · rw [if_neg c3]
          by_cases c4 : D (n_bs cov D k) ≤ D (k + 1)
          · rw [if_pos c4]; exact keep
          · rw [if_neg c4]; exact new
theorem l_nsh {F n q : Nat} {J : j_M} {D : Nat → Nat} (hF : 20000000 < F) (hn : n ≤ 16) (hn1 : 1 ≤ n) (hq : q < n) (a0 : J 1 0 = nI n) (hD : ∀ b, b < n → J (22 + q) b = nI (D b) ∧ D b ≤ 1000000) : f_Gr_nearestShelter F (nI q) J = some (if n_bs (J 3) D (n - 1) = 0 then -1 else nI (n_bs (J 3) D (n - 1)), J) := by
  unfold f_Gr_nearestShelter f_Gr_nearestShelter_8
  refine j_it_run (r := some (if n_bs (J 3) D (n - 1) = 0 then -1 else nI (n_bs (J 3) D (n - 1)), J)) (fun i => (nI q, (if n_bs (J 3) D i = 0 then -1 else nI (n_bs (J 3) D i)), (if n_bs (J 3) D i = 0 then 1000000 else nI (D (n_bs (J 3) D i))), nI (i + 1), J)) (n - 1) (fun i hi again => ?_) (fun again => ?_) F 0 (by omega) (by omega)
  · dsimp only
    unfold f_Gr_nearestShelter_8b f_Gr_nearestShelter_48
    obtain ⟨d1, d2⟩ := hD (i + 1) (by omega)
    obtain ⟨v1, v2⟩ := bs_inv (J 3) D i
    simp only [a0, if_neg (nI_ge (show i + 1 < n by omega) (show n < 2 ^ 31 by omega)), e_mb (F := F) hn a0 hq (show i + 1 < n by omega), j_bdS, j_ok_nI (show i + 1 < 16 by omega) (show 16 < 2 ^ 31 by decide), if_true, j_ix_nI (show i + 1 < 2 ^ 31 by omega), j_letE, nI_1, d1]
    rw [n_bs]
    by_cases c1 : J 3 (i + 1) = 0
    · simp only [if_pos c1]
    · simp only [if_neg c1]
      by_cases c3 : n_bs (J 3) D i = 0
      · by_cases c2 : 1000000 ≤ D (i + 1)
        · simp only [if_pos c2, if_pos c3]
          rw [if_pos (show (1000000 : Int32) ≤ nI _ from nI_le (a := 1000000) c2 (by omega))]
        · simp only [if_neg c2, if_pos c3]
          rw [if_neg (show ¬ (1000000 : Int32) ≤ nI _ from nI_ge (b := 1000000) (by omega) (by decide)), if_neg (Nat.succ_ne_zero i), if_neg (Nat.succ_ne_zero i)]
      · have v3 := (v2 c3).2
        by_cases c2 : 1000000 ≤ D (i + 1)
        · simp only [if_pos c2, if_neg c3]
          rw [if_pos (nI_le (by omega) (by omega))]
        · simp only [if_neg c2, if_neg c3]
          by_cases c4 : D (n_bs (J 3) D i) ≤ D (i + 1)
          · simp only [if_pos c4, if_neg c3]
            rw [if_pos (nI_le c4 (by omega))]
          · simp only [if_neg c4]
            rw [if_neg (nI_ge (by omega) (by omega)), if_neg (Nat.succ_ne_zero i), if_neg (Nat.succ_ne_zero i)]
  · dsimp only
    unfold f_Gr_nearestShelter_8b
    rw [a0, if_pos (nI_le (by omega) (by omega))]
theorem l_fle {F n : Nat} {K : j_M} {D : Nat → Nat} {x1 : Int32} (hF : 20000000 < F) (hn : n ≤ 16) (hn1 : 1 ≤ n) (b0 : K 215 3 = nI n) (hD : ∀ b, b < n → K 221 b = nI (D b) ∧ D b ≤ 1000000) : f_M_flee_14 F x1 (-1) 1 K = if n_bs (K 217) D (n - 1) = 0 then some (0, K) else j_bd (f_M_goes F x1 (nI (n_bs (K 217) D (n - 1))) (nI (D (n_bs (K 217) D (n - 1)))) K) (fun _ I => some (0, I)) := by
  unfold f_M_flee_14
  refine j_it_run (r := if n_bs (K 217) D (n - 1) = 0 then some (0, K) else j_bd (f_M_goes F x1 (nI (n_bs (K 217) D (n - 1))) (nI (D (n_bs (K 217) D (n - 1)))) K) (fun _ I => some (0, I))) (fun i => (x1, (if n_bs (K 217) D i = 0 then -1 else nI (n_bs (K 217) D i)), nI (i + 1), K)) (n - 1) (fun i hi again => ?_) (fun again => ?_) F 0 (by omega) (by omega)
  · dsimp only
    unfold f_M_flee_14b f_M_flee_61 f_M_flee_63
    obtain ⟨d1, d2⟩ := hD (i + 1) (by omega)
    obtain ⟨v1, v2⟩ := bs_inv (K 217) D i
    simp only [b0, if_neg (nI_ge (show i + 1 < n by omega) (show n < 2 ^ 31 by omega)), j_ok_nI (show i + 1 < 16 by omega) (show 16 < 2 ^ 31 by decide), if_true, j_ix_nI (show i + 1 < 2 ^ 31 by omega), j_letE, nI_1, d1]
    rw [n_bs]
    by_cases c1 : K 217 (i + 1) = 0
    · simp only [if_pos c1]
    · simp only [if_neg c1]
      by_cases c2 : 1000000 ≤ D (i + 1)
      · simp only [if_pos c2]
        rw [if_pos (show (1000000 : Int32) ≤ nI _ from nI_le (a := 1000000) c2 (by omega))]
      · simp only [if_neg c2]
        rw [if_neg (show ¬ (1000000 : Int32) ≤ nI _ from nI_ge (b := 1000000) (by omega) (by decide))]
        by_cases c3 : n_bs (K 217) D i = 0
        · simp only [if_pos c3]
          rw [if_pos (by decide), if_neg (Nat.succ_ne_zero i)]
        · simp only [if_neg c3]
          have d3 := (hD (n_bs (K 217) D i) (by omega)).1
          rw [if_neg (nI_pos (by omega)), if_pos (j_ok_nI (by omega) (by decide)), j_ix_nI (by omega), d3]
          by_cases c4 : D (n_bs (K 217) D i) ≤ D (i + 1)
          · simp only [if_pos c4, if_neg c3]
            rw [if_pos (nI_le c4 (by omega))]
          · simp only [if_neg c4]
            rw [if_neg (nI_ge (by omega) (by have := (v2 c3).2; omega)), if_neg (Nat.succ_ne_zero i)]
  · dsimp only
    unfold f_M_flee_14b
    obtain ⟨v1, v2⟩ := bs_inv (K 217) D (n - 1)
    rw [b0, if_pos (nI_le (by omega) (by omega))]
    by_cases c3 : n_bs (K 217) D (n - 1) = 0
    · simp only [if_pos c3]
      rw [if_pos (by decide)]
    · simp only [if_neg c3]
      rw [if_neg (nI_pos (by omega)), if_pos (j_ok_nI (by omega) (by decide)), j_ix_nI (by omega), (hD (n_bs (K 217) D (n - 1)) (by omega)).1]
theorem pr_seek {F : Nat} {s : Nat → Nat} {J K : j_M} {kb26 : Int32 → Int32 → j_M → Option (Int32 × j_M)} {x1 x2 : Int32} {kc : Int32 → j_M → Option (Int32 × j_M)} {Q : Int32 → j_M → Int32 → j_M → Prop} (hF : 20000000 < F) (hr : RR F s J K) (hdu : R_du (s 1) (s 2) (vw 43 100 J))
    (nx : ∀ s' J' K', (∀ k, k ≠ 8 → s' k = s k) → RR F s' J' K' → R_du (s 1) (s 2) (vw 43 100 J') → frJ J J' → frK K K' → j_wp2 (kc 0 J') (f_M_minutes_214 F kb26 x1 x2 K') Q) : j_wp2 (j_bd (f_G_seekShelter F J) kc) (f_M_minutes_163 F kb26 x1 x2 0 K) Q := by
  have c1 := RR_c1 hr
  unfold f_G_seekShelter f_G_seekShelter_2 f_M_minutes_163
  refine j_it2g (fun o1 o2 => j_wp2 (j_bd o1 kc) o2 Q) (Inv := fun k q r => ∃ i s' J' K', i + k = s 1 ∧ q = (nI i, J') ∧ r = (x1, x2, nI i, K') ∧ (∀ k, k ≠ 8 → s' k = s k) ∧ RR F s' J' K' ∧ R_du (s 1) (s 2) (vw 43 100 J') ∧ frJ J J' ∧ frK K K') ?_ F (s 1) _ _ (by omega) ⟨0, s, J, K, by omega, rfl, rfl, fun _ _ => rfl, hr, hdu, frJ_rf _, frK_rf _⟩
  intro k q r g1 g2 hq hag
  obtain ⟨i, s', J', K', hi, rfl, rfl, hss, hr', hd, f1, f2⟩ := hq
  dsimp only
  unfold f_G_seekShelter_2b f_M_minutes_163b f_G_seekShelter_56 f_G_seekShelter_57 f_G_seekShelter_77 f_G_seekShelter_105 f_M_minutes_208
  have s0 : s' 0 = s 0 := hss 0 (by decide)
  have s1 : s' 1 = s 1 := hss 1 (by decide)
  have s2 : s' 2 = s 2 := hss 2 (by decide)
  have s13 : s' 13 = s 13 := hss 13 (by decide)
  have a1 : J' 41 0 = nI (s 1) := by rw [RR_a1 hr', s1]
  have b1 : K' 215 12 = nI (s 1) := by rw [RR_b1 hr', s1]
  have c2 := RR_c2 hr'
  have c0 := RR_c0 hr'
  simp only [a1, b1]
  by_cases e : i = s 1
  · have c : nI (s 1) ≤ nI i := nI_le (by omega) (by omega)
    rw [if_pos c, if_pos c, j_bdS]
    exact nx s' J' K' hss hr' hd f1 f2
  have c : ¬ nI (s 1) ≤ nI i := nI_ge (by omega) (by omega)
  have i100 : i < 100 := by omega
  have o : j_ok (nI i) 100 = true := j_ok_nI i100 (by decide)
  have hi' : i < s' 1 := by omega
  obtain ⟨p1, p2, p3, p4, p5, p6, -⟩ := RR_hpt hr' i hi'
  obtain ⟨w1, w2, w3, w4, w5⟩ := RR_hrg hr' i hi'
  simp only [if_neg c, o, if_true, j_ix_nI (show i < 2 ^ 31 by omega), j_letE, nI_1, show ¬ (1 : Int32) = 0 by decide, if_false]
  have nxt : ∀ s'' J'' K'', (∀ k, k ≠ 8 → s'' k = s k) → RR F s'' J'' K'' → R_du (s 1) (s 2) (vw 43 100 J'') → frJ J J'' → frK K K'' → j_wp2 (j_bd (g1 (nI (i + 1), J'')) kc) (g2 (x1, x2, nI (i + 1), K'')) Q := fun s'' J'' K'' y1 y2 y3 y5 y6 => hag _ _ (k - 1) (by omega) ⟨i + 1, s'', J'', K'', by omega, rfl, rfl, y1, y2, y3, y5, y6⟩
  have e3 : J' (43 + i) 3 = K' 225 i := by rw [vw_at (lo := 43) (hi := 100) (I := J') i100]; exact p3
  have e4 : J' (43 + i) 4 = K' 226 i := by rw [vw_at (lo := 43) (hi := 100) (I := J') i100]; exact p4
  have e6 : J' (43 + i) 6 = K' 228 i := by rw [vw_at (lo := 43) (hi := 100) (I := J') i100]; exact p6
  rw [e3, e6, e4]
  by_cases z3 : K' 225 i = 0
  · rw [if_pos z3, if_pos z3]
    have z3' : vw 43 100 J' i 3 = 0 := p3.trans z3
    obtain ⟨q, hq, eq⟩ := w3 (by rw [z3']; decide)
    have e4q : K' 226 i = nI q := by rw [← p4]; exact eq
    rcases w4 with z6 | ⟨b, hb, z6⟩
    · have z6' : K' 228 i = -1 := by rw [← p6]; exact z6
      rw [z6', e4q, if_pos (show (-1 : Int32) = -1 from rfl), if_neg (show ¬ (0 : Int32) ≤ -1 by decide)]
      simp only [j_ok_nI (show q < 16 by omega) (show 16 < 2 ^ 31 by decide), if_true, j_ix_nI (show q < 2 ^ 31 by omega), RR_r2 hr']
      by_cases zc : K' 217 q = 0
      · rw [e_io1 c0 (RR_a0 hr') hq (show J' 3 q = 0 by rw [RR_r2 hr']; exact zc), j_bdS, if_neg (show ¬ (1 : Int32) = 0 by decide), e4, e4q, if_pos zc]
        unfold f_M_flee
        rw [if_pos o, j_ix_nI (by omega), e4q]
        obtain ⟨D, hD⟩ : ∃ D : Nat → Nat, ∀ b, b < s' 0 → vw 22 16 J' q b = nI (D b) ∧ D b ≤ 1000000 ∧ (q ≠ b → 1 ≤ D b) := by
          refine ⟨fun b => (vw 22 16 J' q b).toNatClampNeg, fun b hb => ?_⟩
          obtain ⟨d, y1, y2, y3⟩ := l_ways c0 (RR_hwk hr') hq hb
          dsimp only
          rw [y2, nI_clamp (by omega)]
          exact ⟨rfl, y1, y3⟩
        obtain ⟨v, K1, ef, g, rfl, hg⟩ := l_far hF c0 (RR_b0 hr') (RR_hwk hr') hq
        have hn1 : 1 ≤ s' 0 := by omega
        have hDJ : ∀ b, b < s' 0 → J' (22 + q) b = nI (D b) ∧ D b ≤ 1000000 := fun b hb => ⟨by rw [vw_at (lo := 22) (hi := 16) (I := J') (by omega)]; exact (hD b hb).1, (hD b hb).2.1⟩
        have hDK : ∀ b, b < s' 0 → (j_rw K' 221 g) 221 b = nI (D b) ∧ D b ≤ 1000000 := fun b hb => ⟨by rw [rw_at, hg b hb]; exact (hD b hb).1, (hD b hb).2.1⟩
        rw [ef, j_bdS, l_nsh hF c0 hn1 hq (RR_a0 hr') hDJ, bd_bd, j_bdS, l_fle hF c0 hn1 (show (j_rw K' 221 g) 215 3 = nI (s' 0) from RR_b0 hr') hDK]
        have hr2 : RR F s' J' (j_rw K' 221 g) := by
          have hr3 := hr'
          obtain ⟨a0, b0, c0, a1, b1, c1, a2, b2, c2, a3, b3, c3, d3, a4, b4, c4, a5, b5, c5, a6, b6, c6, a7, b7, c7, a8, b8, c8, a9, b9, c9, a10, b10, c10, a11, b11, c11, a12, a15, c15, a14, b14, c14, e1, e2, e3, e4, e5, e6, r1, r2, r3, r4, r5, r6, r7, r8, r9, r10, r11, r12, r13, r14, r15, r16, r17, hwk, hso, hrn, hnu, hpt, hrg, hbx, hor, hsa, hsb, hsc, hsn, hwz, hth, hla, hli, hlt, hpr, hby, htp, hrm, hhd, hlr, hK⟩ := hr3
          exact ⟨a0, b0, c0, a1, b1, c1, a2, b2, c2, a3, b3, c3, d3, a4, b4, c4, a5, b5, c5, a6, b6, c6, a7, b7, c7, a8, b8, c8, a9, b9, c9, a10, b10, c10, a11, b11, c11, a12, a15, c15, a14, b14, c14, e1, e2, e3, e4, e5, e6, r1, r2, r3, r4, r5, r6, r7, r8, r9, r10, r11, r12, r13, r14, r15, r16, r17, (by (try simp (disch := decide) only [vw_wr, vw_rw, vw_jvo]); exact hwk), hso, hrn, (by (try simp (disch := decide) only [vw_wr, vw_rw, vw_jvo]); exact hnu), (by (try simp (disch := decide) only [vw_wr, vw_rw, vw_jvo]); exact hpt), (by (try simp (disch := decide) only [vw_wr, vw_rw, vw_jvo]); exact hrg), (by (try simp (disch := decide) only [vw_wr, vw_rw, vw_jvo]); exact hbx), hor, (by (try simp (disch := decide) only [vw_wr, vw_rw, vw_jvo]); exact hsa), (by (try simp (disch := decide) only [vw_wr, vw_rw, vw_jvo]); exact hsb), (by (try simp (disch := decide) only [vw_wr, vw_rw, vw_jvo]); exact hsc), (by (try simp (disch := decide) only [vw_wr, vw_rw, vw_jvo]); exact hsn), hwz, hth, (by (try simp (disch := decide) only [vw_wr, vw_rw, vw_jvo]); exact hla), hli, hlt, hpr, hby, htp, hrm, (by (try simp (disch := decide) only [vw_wr, vw_rw, vw_jvo]); exact hhd), hlr, hK⟩
        have e217 : (j_rw K' 221 g) 217 = J' 3 := (RR_r2 hr').symm
        rw [e217]
        obtain ⟨v1, v2⟩ := bs_inv (J' 3) D (s' 0 - 1)
        by_cases c3 : n_bs (J' 3) D (s' 0 - 1) = 0
        · rw [if_pos c3, if_pos c3, if_pos rfl, j_bdS]
          exact nxt s' J' _ hss hr2 hd f1 (frK_rw (by decide) f2)
        · generalize n_bs (J' 3) D (s' 0 - 1) = t at v1 v2 c3 ⊢
          obtain ⟨v3, v4⟩ := v2 c3
          have ht : t < s' 0 := by omega
          have hqt : q ≠ t := fun z => by
            rw [← z, RR_r2 hr'] at v3
            exact v3 zc
          obtain ⟨d1, d2, d3⟩ := hD t ht
          have hdt := d3 hqt
          rw [if_neg c3, if_neg c3, if_neg (nI_nem (by omega)), e4, e4q, e_mb c0 (RR_a0 hr') hq ht, j_bdS, (hDJ t ht).1, bd_bd, bd_bd]
          refine wp2_bd (wp2_mono (pr_setOff (K2 := s' 13) (t := t) (d := D t) hF hr2 hi' z3' ht hdt d2 ⟨Nat.le_refl _, RR_hK hr'⟩ ?_) ?_)
          · rw [if_neg v3]
            unfold p_phi
            rw [z3', if_neg (by decide), if_neg (by decide), eq, j_ix_nI (by omega), RR_r2 hr', if_pos zc]
            omega
          · rintro v5 J5 w5 K5 ⟨n8, k1, k2, -, k3, k4⟩
            rw [j_bdS]
            refine nxt _ J5 K5 (fun k hk => ?_) k1 (fun j hj zz => ?_) (frJ_tr f1 k3) (frK_tr (frK_rw (by decide) f2) k4)
            · unfold p_up
              by_cases e13 : k = 13
              · rw [if_pos e13, e13]; exact hss 13 (by decide)
              · rw [if_neg e13, if_neg hk]; exact hss k hk
            · rw [k2] at zz ⊢
              by_cases ej : j = i
              · subst ej
                exact ⟨s' 2 + D t, by omega, by omega, vup_at _ _ _ _⟩
              · rw [vup_ne _ _ _ _ ej, vup_ne _ _ _ _ ej, vup_ne _ _ _ _ ej, vup_ne _ _ _ _ ej] at zz
                rw [vup_ne _ _ _ _ ej, vup_ne _ _ _ _ ej, vup_ne _ _ _ _ ej, vup_ne _ _ _ _ ej]
                exact hd j hj zz
      · rw [e_io0 c0 (RR_a0 hr') hq (show ¬ J' 3 q = 0 by rw [RR_r2 hr']; exact zc), j_bdS, if_pos (show (0 : Int32) = 0 from rfl), if_neg zc]
        exact nxt s' J' K' hss hr' hd f1 f2
    · have z6' : K' 228 i = nI b := by rw [← p6]; exact z6
      have c7 := RR_c7 hr'
      rw [z6', if_neg (nI_nem (by omega)), if_pos (nI_pos' (by omega))]
      exact nxt s' J' K' hss hr' hd f1 f2
  · rw [if_neg z3, if_neg z3]
    exact nxt s' J' K' hss hr' hd f1 f2

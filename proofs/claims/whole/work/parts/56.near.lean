/-! thefts: near, doubt -/
theorem sum_uniq {f : Nat → Nat} {t0 : Nat} : ∀ {n : Nat}, t0 < n → (∀ t, t < n → t ≠ t0 → f t = 0) → p_sum f n = f t0
  | 0, h, _ => absurd h (by omega)
  | n + 1, h, hz => by
    rw [p_sum]
    by_cases e : t0 = n
    · subst e
      have : p_sum f t0 = p_sum (fun _ => 0) t0 := p_sum_congr (fun t ht => hz t (by omega) (by omega))
      have z : ∀ m, p_sum (fun _ => 0) m = 0 := fun m => by
        induction m with
        | zero => rfl
        | succ m ih => rw [p_sum, ih]
      rw [this, z]; omega
    · rw [sum_uniq (t0 := t0) (by omega) (fun t ht hne => hz t (by omega) hne), hz n (by omega) (fun z => e z.symm), Nat.add_zero]
theorem sum_z : ∀ n, p_sum (fun _ => 0) n = 0
  | 0 => rfl
  | n + 1 => by rw [p_sum, sum_z n]
theorem sum_zero {f : Nat → Nat} {n : Nat} (h : ∀ t, t < n → f t = 0) : p_sum f n = 0 := by
  rw [p_sum_congr (g := fun _ => 0) h, sum_z]
theorem sum_add {f g : Nat → Nat} : ∀ n, p_sum (fun k => f k + g k) n = p_sum f n + p_sum g n
  | 0 => rfl
  | n + 1 => by rw [p_sum, p_sum, p_sum, sum_add n]; omega
theorem sum_comm {f : Nat → Nat → Nat} (n : Nat) : ∀ m, p_sum (fun a => p_sum (fun b => f a b) n) m = p_sum (fun b => p_sum (fun a => f a b) m) n
  | 0 => by rw [p_sum]; exact (sum_z n).symm
  | m + 1 => by
    rw [p_sum, sum_comm n m, ← sum_add]
    rfl
def p_sw (J : j_M) (k t : Nat) : Nat := if J 145 t = J 149 k ∧ J 146 t ≤ J 148 k ∧ J 148 k < J 147 t then 1 else 0
def p_nr (K : j_M) (p k : Nat) : Nat := if K 215 2 = 0 then (if K 225 p = 0 ∧ K 226 p = K 259 k then 1 else 0) else (if K 258 k < K 232 p then 0 else if K 233 (j_ix (100 * K 258 k + nI p)) = K 259 k + 1 then 1 else 0)
theorem e_saw {F t k : Nat} {J : j_M} (ht : t < 1040) (hk : k < 20) : f_Wa_saw F (nI t) (nI k) J = some (nI (p_sw J k t), J) := by
  unfold f_Wa_saw
  simp only [j_letE, j_ok_nI ht (by decide), j_ok_nI hk (by decide), if_true, j_ix_nI (show t < 2 ^ 31 by omega), j_ix_nI (show k < 2 ^ 31 by omega)]
  unfold p_sw
  by_cases z1 : J 145 t = J 149 k
  · rw [if_pos z1]
    by_cases z2 : J 148 k < J 146 t
    · rw [if_pos z2, if_neg (fun z => absurd z.2.1 (Int32.not_le.mpr z2))]; rfl
    · rw [if_neg z2]
      by_cases z3 : J 147 t ≤ J 148 k
      · rw [if_pos z3, if_neg (fun z => absurd z3 (Int32.not_le.mpr z.2.2))]; rfl
      · rw [if_neg z3, if_pos ⟨z1, Int32.not_lt.mp z2, Int32.not_le.mp z3⟩]; rfl
  · rw [if_neg z1, if_neg (fun z => z1 z.1)]; rfl
theorem nI_100 (m p : Nat) : 100 * nI m + nI p = nI (100 * m + p) := by
  rw [show (100 : Int32) = nI 100 from rfl, show nI 100 * nI m = nI (100 * m) from (Int32.ofNat_mul 100 m).symm, nI_add]
theorem e_nearI {F p k m : Nat} {K : j_M} (hp : p < 100) (hk : k < 20) (hm : m < 480) (em : K 258 k = nI m) : f_M_isNear F (nI p) (nI k) K = some (nI (p_nr K p k), K) := by
  have o : j_ok (100 * nI m + nI p) 48000 = true := by rw [nI_100]; exact j_ok_nI (by omega) (by decide)
  unfold f_M_isNear
  simp only [em, o, j_ok_nI hp (show (100 : Nat) < 2 ^ 31 by decide), j_ok_nI hk (show (20 : Nat) < 2 ^ 31 by decide), if_true, j_ix_nI (show p < 2 ^ 31 by omega), j_ix_nI (show k < 2 ^ 31 by omega)]
  unfold p_nr
  rw [em]
  by_cases z : K 215 2 = 0
  · rw [if_pos z, if_pos z]
    by_cases z1 : K 225 p = 0
    · rw [if_pos z1]
      by_cases z2 : K 226 p = K 259 k
      · rw [if_pos z2, if_pos ⟨z1, z2⟩]; rfl
      · rw [if_neg z2, if_neg (fun z => z2 z.2)]; rfl
    · rw [if_neg z1, if_neg (fun z => z1 z.1)]; rfl
  · rw [if_neg z, if_neg z]
    by_cases z1 : nI m < K 232 p
    · rw [if_pos z1, if_pos z1]; rfl
    · rw [if_neg z1, if_neg z1]
      by_cases z2 : K 233 (j_ix (100 * nI m + nI p)) = K 259 k + 1
      · rw [if_pos z2, if_pos z2]; rfl
      · rw [if_neg z2, if_neg z2]; rfl
theorem l_nr {F : Nat} {s : Nat → Nat} {J K : j_M} {p k : Nat} (h : R1 F s J K) (hp : p < s 1) (hk : k < s 11) : p_nr K p k = p_sum (fun t => if J 144 t = nI p then p_sw J k t else 0) (s 12) := by
  obtain ⟨hr, h1, h2⟩ := h
  have hns := R_ns hr
  obtain ⟨a0, b0, c0, a1, b1, c1, a2, b2, c2, a3, b3, c3, d3, a4, b4, c4, a5, b5, c5, a6, b6, c6, a7, b7, c7, a8, b8, c8, a9, b9, c9, a10, b10, c10, a11, b11, c11, a12, a15, c15, a14, b14, c14, e1, e2, e3, e4, e5, e6, r1, r2, r3, r4, r5, r6, r7, r8, r9, r10, r11, r12, r13, r14, r15, r16, r17, hwk, hso, hrn, hnu, hpt, hrg, hbx, hor, hsa, hsb, hsc, hsn, hwz, hth, hla, hli, hlt, hpr, hby, htp, hrm, hhd, hlr, hK⟩ := hr
  obtain ⟨m, q, hm, em, hq, eq⟩ := hth k hk
  have eK1 : K 258 k = nI m := by rw [← r16]; exact em
  have eK2 : K 259 k = nI q := by rw [← r17]; exact eq
  obtain ⟨p1, p2, p3, p4, p5, p6, p7, p8, p9, p10⟩ := hpt p hp
  suffices H : (p_nr K p k = 0 ∧ ∀ t, t < s 12 → J 144 t = nI p → ¬ p_cov (J 146) (J 147) t m) ∨ ∃ q' t0, p_nr K p k = (if q' = q then 1 else 0) ∧ q' < 16 ∧ t0 < s 12 ∧ J 144 t0 = nI p ∧ p_cov (J 146) (J 147) t0 m ∧ J 145 t0 = nI q' ∧ ∀ t', t' < s 12 → J 144 t' = nI p → p_cov (J 146) (J 147) t' m → t' = t0 by
    rcases H with ⟨e, hn⟩ | ⟨q', t0, e, hq', ht0, w0, w1, w2, w3⟩
    · rw [e]
      refine (sum_zero (fun t ht => ?_)).symm
      by_cases w : J 144 t = nI p
      · rw [if_pos w]; unfold p_sw; rw [em]; exact if_neg (fun z => hn t ht w z.2)
      · exact if_neg w
    · rw [e, sum_uniq (t0 := t0) ht0 (fun t ht hne => ?_)]
      · rw [if_pos w0]
        unfold p_sw
        rw [w2, eq, em]
        by_cases e2 : q' = q
        · rw [if_pos e2, if_pos ⟨by rw [e2], w1⟩]
        · rw [if_neg e2, if_neg (fun z => nI_ne e2 (by omega) (by omega) z.1)]
      · by_cases w : J 144 t = nI p
        · rw [if_pos w]; unfold p_sw; rw [em]; exact if_neg (fun z => hne (w3 t ht w z.2))
        · exact if_neg w
  by_cases z : s 2 = 0
  · have hm0 : m = 0 := by omega
    subst hm0
    rw [if_pos z] at h2
    have k2 : K 215 2 = 0 := by rw [b2, z]; rfl
    have hcv : ∀ t, t < s 12 → J 144 t = nI p → p_cov (J 146) (J 147) t 0 → vw 43 100 J p 3 = 0 ∧ vw 43 100 J p 11 = nI t := by
      intro t ht hw hc
      obtain ⟨p', f, y1, y2, y3, y4, y5⟩ := hsb t ht
      rw [y2] at hw
      have : p' = p := (nI_eq (by omega) (by omega)).mp hw
      subst this
      rcases y5 with ⟨u, hu, eu⟩ | ⟨-, y6, y7⟩
      · have := hc.2
        rw [eu] at this
        exact absurd this (nI_nlt (by omega) (by omega))
      · exact ⟨y6, y7⟩
    by_cases w : vw 43 100 J p 3 = 0
    · obtain ⟨t, y1, y2, y3, y4, y5⟩ := hsc p hp w
      obtain ⟨q', hq', e4⟩ := (hrg p hp).2.2.1 (by rw [w]; decide)
      obtain ⟨p', f, w1, w2, w3, w4, w5⟩ := hsb t y1
      refine Or.inr ⟨q', t, ?_, by omega, y1, y3, ⟨?_, ?_⟩, by rw [y4, e4], fun t' ht' hw' hc' => ?_⟩
      · unfold p_nr
        rw [if_pos k2, ← p3, ← p4, w, e4, eK2]
        by_cases e2 : q' = q
        · rw [if_pos e2, if_pos ⟨rfl, by rw [e2]⟩]
        · rw [if_neg e2, if_neg (fun z => nI_ne e2 (by omega) (by omega) z.2)]
      · rw [w4]; exact nI_le (by omega) (by decide)
      · rw [y5]; decide
      · have := (hcv t' ht' hw' hc').2
        rw [y2] at this
        exact ((nI_eq (by omega) (by omega)).mp this).symm
    · refine Or.inl ⟨?_, fun t ht hw hc => w (hcv t ht hw hc).1⟩
      unfold p_nr
      rw [if_pos k2, if_neg (fun z => w (by rw [p3]; exact z.1))]
  · rw [if_neg z] at h2
    have k2 : ¬ K 215 2 = 0 := by rw [b2]; exact nI_ne0 (by omega) (by omega)
    have p100 : p < 100 := by omega
    have ix : j_ix (100 * K 258 k + nI p) = 100 * m + p := by rw [eK1, nI_100, j_ix_nI (by omega)]
    rcases hsa p hp m (by omega) with ⟨y1, y2⟩ | ⟨q', t, y1, y2, y3, y4, y5, y6, y7⟩
    · refine Or.inl ⟨?_, y2⟩
      unfold p_nr
      unfold p_pic at y1
      rw [p10] at y1
      rw [if_neg k2, ix, eK1, eK2]
      by_cases z1 : nI m < K 232 p
      · rw [if_pos z1]
      · rw [if_neg z1] at y1
        rw [if_neg z1, y1, nI_1, if_neg (fun z => nI_ne0 (n := q + 1) (by omega) (by omega) z.symm)]
    · refine Or.inr ⟨q', t, ?_, y1, y3, y4, y5, y6, y7⟩
      unfold p_nr
      unfold p_pic at y2
      rw [p10] at y2
      rw [if_neg k2, ix, eK1, eK2]
      by_cases z1 : nI m < K 232 p
      · rw [if_pos z1] at y2
        exact absurd y2.symm (nI_ne0 (by omega) (by omega))
      · rw [if_neg z1] at y2
        rw [if_neg z1, y2, nI_1]
        by_cases e2 : q' = q
        · rw [if_pos e2, if_pos (by rw [e2])]
        · rw [if_neg e2, if_neg (nI_ne (by omega) (by omega) (by omega))]
theorem b01 {n : Nat} (h : n = 0 ∨ n = 1) {α : Type} {f : Int32 → α} : (if nI n = 0 then f 0 else f 1) = f (nI n) := by
  rcases h with rfl | rfl
  · rw [if_pos (show nI 0 = 0 from rfl)]; rfl
  · rw [if_neg (by decide)]; rfl
theorem sw01 (J : j_M) (k t : Nat) : p_sw J k t = 0 ∨ p_sw J k t = 1 := by
  unfold p_sw
  by_cases h : J 145 t = J 149 k ∧ J 146 t ≤ J 148 k ∧ J 148 k < J 147 t
  · rw [if_pos h]; exact Or.inr rfl
  · rw [if_neg h]; exact Or.inl rfl
theorem nr01 (K : j_M) (p k : Nat) : p_nr K p k = 0 ∨ p_nr K p k = 1 := by
  unfold p_nr
  split
  · split
    · exact Or.inr rfl
    · exact Or.inl rfl
  · split
    · exact Or.inl rfl
    · split
      · exact Or.inr rfl
      · exact Or.inl rfl
theorem l_wit {F ns k : Nat} {J : j_M} (hF : 20000000 < F) (a12 : J 143 1 = nI ns) (hns : ns ≤ 1024) (hk : k < 20) : f_Wa_witnesses F (nI k) J = some (nI (p_sum (p_sw J k) ns), J) := by
  unfold f_Wa_witnesses f_Wa_witnesses_4
  refine j_it_run (r := some (nI (p_sum (p_sw J k) ns), J)) (fun i => (nI k, nI (p_sum (p_sw J k) i), nI i, J)) ns (fun i hi g => ?_) (fun g => ?_) F 0 (by omega) (by omega)
  · dsimp only
    unfold f_Wa_witnesses_4b f_Wa_witnesses_27
    rw [a12, if_neg (nI_ge hi (by omega)), e_saw (by omega) hk, j_bdS]
    simp only [j_letE]
    rw [b01 (sw01 J k i) (f := fun v => g (nI k, nI (p_sum (p_sw J k) i) + v, nI i + 1, J)), nI_add, nI_1]
    rfl
  · dsimp only
    unfold f_Wa_witnesses_4b
    rw [a12, if_pos (nI_le (Nat.le_refl _) (by omega))]
theorem l_nrs {F np k m : Nat} {K : j_M} (hF : 20000000 < F) (b1 : K 215 12 = nI np) (hnp : np ≤ 100) (hk : k < 20) (hm : m < 480) (em : K 258 k = nI m) : f_M_near_20 F (nI k) 0 0 K = some (nI (p_sum (fun p => p_nr K p k) np), K) := by
  unfold f_M_near_20
  refine j_it_run (r := some (nI (p_sum (fun p => p_nr K p k) np), K)) (fun i => (nI k, nI (p_sum (fun p => p_nr K p k) i), nI i, K)) np (fun i hi g => ?_) (fun g => ?_) F 0 (by omega) (by omega)
  · dsimp only
    unfold f_M_near_20b f_M_near_43
    rw [b1, if_neg (nI_ge hi (by omega)), e_nearI (by omega) hk hm em, j_bdS]
    simp only [j_letE]
    rw [b01 (nr01 K i k) (f := fun v => g (nI k, nI (p_sum (fun p => p_nr K p k) i) + v, nI i + 1, K)), nI_add, nI_1]
    rfl
  · dsimp only
    unfold f_M_near_20b
    rw [b1, if_pos (nI_le (Nat.le_refl _) (by omega))]
theorem op_near (F : Nat) (hF : 20000000 < F) (x1 : Int32) : OP F (f_G_near F x1) (f_M_near F x1) := by
  intro s J K hs h
  have h0 := h
  obtain ⟨hr, h1, h2⟩ := h
  have hns := R_ns hr
  obtain ⟨a0, b0, c0, a1, b1, c1, a2, b2, c2, a3, b3, c3, d3, a4, b4, c4, a5, b5, c5, a6, b6, c6, a7, b7, c7, a8, b8, c8, a9, b9, c9, a10, b10, c10, a11, b11, c11, a12, a15, c15, a14, b14, c14, e1, e2, e3, e4, e5, e6, r1, r2, r3, r4, r5, r6, r7, r8, r9, r10, r11, r12, r13, r14, r15, r16, r17, hwk, hso, hrn, hnu, hpt, hrg, hbx, hor, hsa, hsb, hsc, hsn, hwz, hth, hla, hli, hlt, hpr, hby, htp, hrm, hhd, hlr, hK⟩ := hr
  simp only [f_G_near, f_M_near, e_within, e_among, j_bdS, a11, b11, nI_pm (n := s 11) (by omega), bd_id]
  refine wp2_ite Iff.rfl (fun q1 => wp2_mk rfl rfl (op_idle hs h0 rfl)) (fun q1 => ?_)
  obtain ⟨k, hk, rfl⟩ := nI_in1 (by omega) (b10n q1)
  obtain ⟨m, q, hm, em, hq, eq⟩ := hth k hk
  refine wp2_mk (l_wit hF a12 hns (by omega)) (l_nrs (m := m) hF b1 c1 (by omega) (by omega) (by rw [← r16]; exact em)) (op_idle hs h0 ?_)
  congr 1
  rw [p_sum_congr (f := fun p => p_nr K p k) (fun p hp => l_nr h0 hp hk), sum_comm]
  refine p_sum_congr (fun t ht => ?_)
  obtain ⟨p', f, y1, y2, y3, y4, y5⟩ := hsb t ht
  rw [sum_uniq (t0 := p') y1 (fun p hp hne => ?_)]
  · rw [if_pos y2]
  · rw [y2, if_neg (nI_ne (fun z => hne z.symm) (by omega) (by omega))]
theorem l_sus1 {F ns k p x : Nat} {J : j_M} {kb : Int32 → Int32 → Int32 → j_M → Option (Int32 × j_M)} (hF : 20000000 < F) (a12 : J 143 1 = nI ns) (hns : ns ≤ 1024) (hk : k < 20) : f_Wa_suspicion_15 F kb (nI p) (nI x) (nI k) 0 J = kb (nI p) (nI (x + p_sum (fun t => if J 144 t = nI p then p_sw J k t else 0) ns)) (nI (k + 1)) J := by
  unfold f_Wa_suspicion_15
  refine j_it_run (r := kb (nI p) (nI (x + p_sum (fun t => if J 144 t = nI p then p_sw J k t else 0) ns)) (nI (k + 1)) J) (fun i => (nI p, nI (x + p_sum (fun t => if J 144 t = nI p then p_sw J k t else 0) i), nI k, nI i, J)) ns (fun i hi g => ?_) (fun g => ?_) F 0 (by omega) (by omega)
  · dsimp only
    unfold f_Wa_suspicion_15b f_Wa_suspicion_50 f_Wa_suspicion_51
    rw [a12, if_neg (nI_ge hi (by omega)), e_saw (by omega) hk, if_pos (j_ok_nI (show i < 1040 by omega) (by decide)), j_ix_nI (by omega), j_bdS]
    simp only [j_letE]
    rw [p_sum]
    by_cases w : J 144 i = nI p
    · rw [if_pos w, if_pos w, b01 (sw01 J k i) (f := fun v => g (nI p, nI (x + p_sum (fun t => if J 144 t = nI p then p_sw J k t else 0) i) + v, nI k, nI i + 1, J)), nI_add, nI_1, Nat.add_assoc]
    · rw [if_neg w, if_neg w, Int32.add_zero, nI_1]; rfl
  · dsimp only
    unfold f_Wa_suspicion_15b
    rw [a12, if_pos (nI_le (Nat.le_refl _) (by omega))]
    simp only [j_letE, nI_1]
theorem op_doubt (F : Nat) (hF : 20000000 < F) (x1 : Int32) : OP F (f_G_doubt F x1) (f_M_doubt F x1) := by
  intro s J K hs h
  have h0 := h
  obtain ⟨hr, h1, h2⟩ := h
  have hns := R_ns hr
  obtain ⟨a0, b0, c0, a1, b1, c1, a2, b2, c2, a3, b3, c3, d3, a4, b4, c4, a5, b5, c5, a6, b6, c6, a7, b7, c7, a8, b8, c8, a9, b9, c9, a10, b10, c10, a11, b11, c11, a12, a15, c15, a14, b14, c14, e1, e2, e3, e4, e5, e6, r1, r2, r3, r4, r5, r6, r7, r8, r9, r10, r11, r12, r13, r14, r15, r16, r17, hwk, hso, hrn, hnu, hpt, hrg, hbx, hor, hsa, hsb, hsc, hsn, hwz, hth, hla, hli, hlt, hpr, hby, htp, hrm, hhd, hlr, hK⟩ := hr
  simp only [f_G_doubt, f_M_doubt, e_Gu_has, e_isPa F x1 K b1 (by omega), j_bdS, a1, bd_id]
  refine wp2_ite Iff.rfl (fun q1 => wp2_mk rfl rfl (op_idle hs h0 rfl)) (fun q1 => ?_)
  obtain ⟨p, hp, rfl⟩ := nI_in1 (by omega) (b10n q1)
  have e1 : f_Wa_suspicion F (nI p) J = some (nI (p_sum (fun k => p_nr K p k) (s 11)), J) := by
    unfold f_Wa_suspicion f_Wa_suspicion_4
    refine j_it_run (r := some (nI (p_sum (fun k => p_nr K p k) (s 11)), J)) (fun i => (nI p, nI (p_sum (fun k => p_nr K p k) i), nI i, J)) (s 11) (fun i hi g => ?_) (fun g => ?_) F 0 (by omega) (by omega)
    · dsimp only
      unfold f_Wa_suspicion_4b
      rw [a11, if_neg (nI_ge hi (by omega)), l_sus1 hF a12 hns (by omega), ← l_nr h0 hp hi]
      rfl
    · dsimp only
      unfold f_Wa_suspicion_4b
      rw [a11, if_pos (nI_le (Nat.le_refl _) (by omega))]
  have e2 : f_M_doubt_14 F (nI p) 0 0 K = some (nI (p_sum (fun k => p_nr K p k) (s 11)), K) := by
    unfold f_M_doubt_14
    refine j_it_run (r := some (nI (p_sum (fun k => p_nr K p k) (s 11)), K)) (fun i => (nI p, nI (p_sum (fun k => p_nr K p k) i), nI i, K)) (s 11) (fun i hi g => ?_) (fun g => ?_) F 0 (by omega) (by omega)
    · obtain ⟨m, q, hm, em, hq, eq⟩ := hth i hi
      dsimp only
      unfold f_M_doubt_14b f_M_doubt_37
      rw [b11, if_neg (nI_ge hi (by omega)), e_nearI (m := m) (by omega) (by omega) (by omega) (by rw [← r16]; exact em), j_bdS]
      simp only [j_letE]
      rw [b01 (nr01 K p i) (f := fun v => g (nI p, nI (p_sum (fun k => p_nr K p k) i) + v, nI i + 1, K)), nI_add, nI_1]
      rfl
    · dsimp only
      unfold f_M_doubt_14b
      rw [b11, if_pos (nI_le (Nat.le_refl _) (by omega))]
  exact wp2_mk e1 e2 (op_idle hs h0 rfl)

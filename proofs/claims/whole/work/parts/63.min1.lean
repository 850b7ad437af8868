/-! minutes: pictures, the beginning and the end of a minute, arrivals -/
theorem nI_by {k : Nat} (h : k < 128) : (nI k).toInt8.toInt32 = nI k := by
  apply Int32.toInt_inj.mp
  rw [Int8.toInt_toInt32, Int32.toInt_toInt8, nI_toInt (by omega), Int.bmod_eq_of_le (by omega) (by omega)]
def k_kp (K : j_M) (mi np t : Nat) : Int32 := if 100 * mi ≤ t ∧ t < 100 * mi + np then (if K 225 (t - 100 * mi) = 0 then K 226 (t - 100 * mi) + 1 else 0) else K 233 t
theorem e_keep {F np mi : Nat} {K : j_M} (hF : 20000000 < F) (b1 : K 215 12 = nI np) (hnp : np ≤ 100) (b2 : K 215 2 = nI mi) (hmi : mi < 480) (hpl : ∀ p, p < np → K 225 p = 0 → ∃ q, q < 16 ∧ K 226 p = nI q) : f_M_keep F K = some (0, j_rw K 233 (k_kp K mi np)) := by
  unfold f_M_keep f_M_keep_2
  have h0 : ((0 : Int32), K) = (nI 0, j_rw K 233 (k_kp K mi 0)) := by
    rw [show k_kp K mi 0 = K 233 from by funext t; exact if_neg (by omega), rw_self]; rfl
  rw [h0]
  refine j_it_run (r := some (0, j_rw K 233 (k_kp K mi np))) (fun i => (nI i, j_rw K 233 (k_kp K mi i))) np (fun i hi again => ?_) (fun again => ?_) F 0 (by omega) (by omega)
  · dsimp only
    unfold f_M_keep_2b f_M_keep_44
    have e1 : (j_rw K 233 (k_kp K mi i)) 215 12 = nI np := b1
    have e2 : (j_rw K 233 (k_kp K mi i)) 215 2 = nI mi := b2
    have e3 : (j_rw K 233 (k_kp K mi i)) 225 = K 225 := rfl
    have e4 : (j_rw K 233 (k_kp K mi i)) 226 = K 226 := rfl
    simp only [e1, e2, e3, e4, if_neg (nI_ge hi (show np < 2 ^ 31 by omega)), j_ok_nI (show i < 100 by omega) (show 100 < 2 ^ 31 by decide), if_true, nI_100, j_ok_nI (show 100 * mi + i < 48000 by omega) (show 48000 < 2 ^ 31 by decide), j_ix_nI (show i < 2 ^ 31 by omega), j_ix_nI (show 100 * mi + i < 2 ^ 31 by omega), j_letE, nI_1, rw_wr]
    have key : ∀ v : Int32, v = (if K 225 i = 0 then K 226 i + 1 else 0) → j_rw K 233 (upd (k_kp K mi i) (100 * mi + i) v) = j_rw K 233 (k_kp K mi (i + 1)) := by
      intro v hv
      congr 1
      funext t
      unfold upd
      by_cases e : t = 100 * mi + i
      · rw [if_pos e, hv]
        unfold k_kp
        rw [if_pos (show 100 * mi ≤ t ∧ t < 100 * mi + (i + 1) by omega), show t - 100 * mi = i by omega]
      · rw [if_neg e]
        unfold k_kp
        by_cases c : 100 * mi ≤ t ∧ t < 100 * mi + i
        · rw [if_pos c, if_pos (show 100 * mi ≤ t ∧ t < 100 * mi + (i + 1) by omega)]
        · rw [if_neg c, if_neg (by omega)]
    by_cases c : K 225 i = 0
    · rw [if_pos c]
      obtain ⟨q, hq, eq⟩ := hpl i hi c
      rw [key _ (by rw [if_pos c, eq, nI_1, nI_by (by omega), nI_by (by omega)])]
    · rw [if_neg c, key _ (by rw [if_neg c]; decide)]
  · dsimp only
    unfold f_M_keep_2b
    have e1 : (j_rw K 233 (k_kp K mi np)) 215 12 = nI np := b1
    rw [e1, if_pos (nI_le (Nat.le_refl _) (by omega))]
theorem e_zero {F mi : Nat} {x1 x2 : Int32} {K : j_M} {kb : Int32 → Int32 → j_M → Option (Int32 × j_M)} (hF : 20000000 < F) (b2 : K 215 2 = nI mi) (hmi : mi < 480) : f_M_minutes_54 F kb x1 x2 0 K = f_M_minutes_83 F kb x1 x2 0 (j_rw K 233 (fun t => if 100 * mi ≤ t ∧ t < 100 * mi + 100 then 0 else K 233 t)) := by
  unfold f_M_minutes_54
  have h0 : (x1, x2, (0 : Int32), K) = (x1, x2, nI 0, j_rw K 233 (fun t => if 100 * mi ≤ t ∧ t < 100 * mi + 0 then 0 else K 233 t)) := by
    rw [show (fun t => if 100 * mi ≤ t ∧ t < 100 * mi + 0 then 0 else K 233 t) = K 233 from by funext t; exact if_neg (by omega), rw_self]; rfl
  rw [h0]
  refine j_it_run (r := f_M_minutes_83 F kb x1 x2 0 (j_rw K 233 (fun t => if 100 * mi ≤ t ∧ t < 100 * mi + 100 then 0 else K 233 t))) (fun i => (x1, x2, nI i, j_rw K 233 (fun t => if 100 * mi ≤ t ∧ t < 100 * mi + i then 0 else K 233 t))) 100 (fun i hi again => ?_) (fun again => ?_) F 0 (by omega) (by omega)
  · dsimp only
    unfold f_M_minutes_54b
    have e2 : (j_rw K 233 (fun t => if 100 * mi ≤ t ∧ t < 100 * mi + i then 0 else K 233 t)) 215 2 = nI mi := b2
    simp only [e2, if_neg (show ¬ (100 : Int32) ≤ nI _ from nI_ge (b := 100) hi (by decide)), nI_100, j_ok_nI (show 100 * mi + i < 48000 by omega) (show 48000 < 2 ^ 31 by decide), if_true, j_ix_nI (show 100 * mi + i < 2 ^ 31 by omega), j_letE, nI_1, rw_wr]
    congr 5
    funext t
    unfold upd
    by_cases e : t = 100 * mi + i
    · rw [if_pos e, if_pos (by omega)]; decide
    · rw [if_neg e]
      dsimp only
      by_cases c : 100 * mi ≤ t ∧ t < 100 * mi + i
      · rw [if_pos c, if_pos (by omega)]
      · rw [if_neg c, if_neg (by omega)]
  · dsimp only
    unfold f_M_minutes_54b
    rw [if_pos (show (100 : Int32) ≤ nI _ from nI_le (a := 100) (Nat.le_refl _) (by decide))]
theorem sa_wa {np ns sh : Nat} {P : Nat → Nat → Int32} {who whe fr un wa wa' : Nat → Int32} (h : R_sa np ns sh P who whe fr un wa) (hw : ∀ m p, m < sh → p < np → wa' (100 * m + p) = wa (100 * m + p)) : R_sa np ns sh P who whe fr un wa' := by
  intro p hp m hm
  have e : p_pic P wa' p m = p_pic P wa p m := by unfold p_pic; rw [hw m p hm hp]
  rw [e]; exact h p hp m hm
theorem sa_keep {np ns mi : Nat} {P : Nat → Nat → Int32} {who whe fr un wa wa' : Nat → Int32} (h : R_sa np ns mi P who whe fr un wa) (hb : R_sb np ns mi P who fr un) (hc : R_sc np ns P who whe un) (hg : ∀ p, p < np → (∃ c, c ≤ mi ∧ P p 10 = nI c) ∧ (P p 3 ≠ 2 → ∃ q, q < 16 ∧ P p 4 = nI q)) (h1 : ∀ p, p < np → wa' (100 * mi + p) = if P p 3 = 0 then P p 4 + 1 else 0) (h2 : ∀ m p, m < mi → p < np → wa' (100 * m + p) = wa (100 * m + p)) (hmi : mi < 480) (hnp : np ≤ 100) (hns : ns < 2 ^ 31) : R_sa np ns (mi + 1) P who whe fr un wa' := by
  intro p hp m hm
  by_cases e : m = mi
  · subst e
    have hcv : ∀ t, t < ns → who t = nI p → p_cov fr un t m → P p 3 = 0 ∧ P p 11 = nI t := by
      intro t ht hw hc
      obtain ⟨p', f, y1, y2, y3, y4, y5⟩ := hb t ht
      rw [y2] at hw
      have : p' = p := (nI_eq (by omega) (by omega)).mp hw
      subst this
      rcases y5 with ⟨u, hu, eu⟩ | ⟨-, y6, y7⟩
      · have := hc.2
        rw [eu] at this
        exact absurd this (nI_nlt (by omega) (by omega))
      · exact ⟨y6, y7⟩
    have pic : p_pic P wa' p m = if P p 3 = 0 then P p 4 + 1 else 0 := by
      obtain ⟨c, hc1, hc2⟩ := (hg p hp).1
      unfold p_pic
      rw [hc2, if_neg (nI_nlt hc1 (by omega))]
      exact h1 p hp
    by_cases w : P p 3 = 0
    · obtain ⟨t, y1, y2, y3, y4, y5⟩ := hc p hp w
      obtain ⟨q', hq', e4⟩ := (hg p hp).2 (by rw [w]; decide)
      obtain ⟨p', f, w1, w2, w3, w4, w5⟩ := hb t y1
      refine Or.inr ⟨q', t, hq', by rw [pic, if_pos w, e4, nI_1], y1, y3, ⟨?_, ?_⟩, by rw [y4, e4], fun t' ht' hw' hc' => ?_⟩
      · rw [w4]; exact nI_le w3 (by omega)
      · rw [y5]; exact nI_lt (b := 480) (by omega) (by decide)
      · have := (hcv t' ht' hw' hc').2
        rw [y2] at this
        exact ((nI_eq (by omega) (by omega)).mp this).symm
    · exact Or.inl ⟨by rw [pic, if_neg w], fun t ht hw hc => w (hcv t ht hw hc).1⟩
  · have hm2 : m < mi := by omega
    have ep : p_pic P wa' p m = p_pic P wa p m := by unfold p_pic; rw [h2 m p hm2 hp]
    rw [ep]; exact h p hp m hm2
theorem sb_mono {np ns sh sh' : Nat} {P : Nat → Nat → Int32} {who fr un : Nat → Int32} (h : R_sb np ns sh P who fr un) (hs : sh ≤ sh') : R_sb np ns sh' P who fr un := by
  intro t ht
  obtain ⟨p, f, y1, y2, y3, y4, y5⟩ := h t ht
  refine ⟨p, f, y1, y2, by omega, y4, ?_⟩
  rcases y5 with ⟨u, z1, z2⟩ | z
  · exact Or.inl ⟨u, by omega, z2⟩
  · exact Or.inr z
/-- what keeping a picture does, as the relation sees it -/
theorem rr_kept {F : Nat} {s : Nat → Nat} {J K : j_M} (hr : RR F s J K) (h15 : s 15 = s 2) : R_sa (s 1) (s 12) (s 2 + 1) (vw 43 100 J) (J 144) (J 145) (J 146) (J 147) (k_kp K (s 2) (s 1)) ∧ R_sb (s 1) (s 12) (s 2 + 1) (vw 43 100 J) (J 144) (J 146) (J 147) ∧ ∀ p, p < s 1 → K 225 p = 0 → ∃ q, q < 16 ∧ K 226 p = nI q := by
  have hns := R_ns hr
  obtain ⟨a0, b0, c0, a1, b1, c1, a2, b2, c2, a3, b3, c3, d3, a4, b4, c4, a5, b5, c5, a6, b6, c6, a7, b7, c7, a8, b8, c8, a9, b9, c9, a10, b10, c10, a11, b11, c11, a12, a15, c15, a14, b14, c14, e1, e2, e3, e4, e5, e6, r1, r2, r3, r4, r5, r6, r7, r8, r9, r10, r11, r12, r13, r14, r15, r16, r17, hwk, hso, hrn, hnu, hpt, hrg, hbx, hor, hsa, hsb, hsc, hsn, hwz, hth, hla, hli, hlt, hpr, hby, htp, hrm, hhd, hlr, hK⟩ := hr
  rw [h15] at hsa hsb
  refine ⟨sa_keep hsa hsb hsc (fun p hp => ⟨(hrg p hp).1, fun z => ?_⟩) (fun p hp => ?_) (fun m p hm hp => ?_) c2 c1 (by omega), sb_mono hsb (by omega), fun p hp z => ?_⟩
  · obtain ⟨q, y1, y2⟩ := (hrg p hp).2.2.1 z
    exact ⟨q, by omega, y2⟩
  · unfold k_kp
    rw [if_pos (by omega), show 100 * s 2 + p - 100 * s 2 = p by omega, (hpt p hp).2.2.1, (hpt p hp).2.2.2.1]
  · unfold k_kp
    rw [if_neg (by omega)]
  · rw [← (hpt p hp).2.2.1] at z
    obtain ⟨q, y1, y2⟩ := (hrg p hp).2.2.1 (by rw [z]; decide)
    exact ⟨q, by omega, by rw [← (hpt p hp).2.2.2.1]; exact y2⟩
theorem rr_tock {F : Nat} {s : Nat → Nat} {J K : j_M} (hF : 20000000 < F) (hr : RR F s J K) (h15 : s 15 = s 2) : f_M_keep F K = some (0, j_rw K 233 (k_kp K (s 2) (s 1))) ∧ RR F (p_up s 15 (s 2 + 1)) (j_wr J 143 0 (nI (s 2 + 1))) (j_rw K 233 (k_kp K (s 2) (s 1))) := by
  obtain ⟨k1, k2, k3⟩ := rr_kept hr h15
  obtain ⟨a0, b0, c0, a1, b1, c1, a2, b2, c2, a3, b3, c3, d3, a4, b4, c4, a5, b5, c5, a6, b6, c6, a7, b7, c7, a8, b8, c8, a9, b9, c9, a10, b10, c10, a11, b11, c11, a12, a15, c15, a14, b14, c14, e1, e2, e3, e4, e5, e6, r1, r2, r3, r4, r5, r6, r7, r8, r9, r10, r11, r12, r13, r14, r15, r16, r17, hwk, hso, hrn, hnu, hpt, hrg, hbx, hor, hsa, hsb, hsc, hsn, hwz, hth, hla, hli, hlt, hpr, hby, htp, hrm, hhd, hlr, hK⟩ := hr
  refine ⟨e_keep hF b1 c1 b2 c2 k3, ?_⟩
  exact ⟨a0, b0, c0, a1, b1, c1, a2, b2, c2, a3, b3, c3, d3, a4, b4, c4, a5, b5, c5, a6, b6, c6, a7, b7, c7, a8, b8, c8, a9, b9, c9, a10, b10, c10, a11, b11, c11, a12, rfl, (show s 2 + 1 ≤ 480 by omega), a14, b14, c14, e1, e2, e3, e4, e5, e6, r1, r2, r3, r4, r5, r6, r7, r8, r9, r10, r11, r12, r13, r14, r15, r16, r17, (by (try simp (disch := decide) only [vw_wr, vw_rw, vw_jvo]); exact hwk), hso, hrn, (by (try simp (disch := decide) only [vw_wr, vw_rw, vw_jvo]); exact hnu), (by (try simp (disch := decide) only [vw_wr, vw_rw, vw_jvo]); exact hpt), (by (try simp (disch := decide) only [vw_wr, vw_rw, vw_jvo]); exact hrg), (by (try simp (disch := decide) only [vw_wr, vw_rw, vw_jvo]); exact hbx), hor, (by simp (disch := decide) only [vw_wr]; exact k1), (by simp (disch := decide) only [vw_wr]; exact k2), (by (try simp (disch := decide) only [vw_wr, vw_rw, vw_jvo]); exact hsc), (by (try simp (disch := decide) only [vw_wr, vw_rw, vw_jvo]); exact hsn), (show R_wz (s 1) (s 2) (k_kp K (s 2) (s 1)) from fun p y1 y2 y3 => (by
    unfold k_kp
    rw [if_neg (by omega)]
    exact hwz p y1 y2 y3)), hth, (by (try simp (disch := decide) only [vw_wr, vw_rw, vw_jvo]); exact hla), hli, hlt, hpr, hby, htp, hrm, (by (try simp (disch := decide) only [vw_wr, vw_rw, vw_jvo]); exact hhd), hlr, hK⟩
theorem rr_tick0 {F : Nat} {s : Nat → Nat} {J K : j_M} {wa : Nat → Int32} (hr : RR F s J K) (hmi : s 2 < 479) (hsa1 : R_sa (s 1) (s 12) (s 2 + 1) (vw 43 100 J) (J 144) (J 145) (J 146) (J 147) wa) (hsb1 : R_sb (s 1) (s 12) (s 2 + 1) (vw 43 100 J) (J 144) (J 146) (J 147)) : RR F (p_up (p_up s 2 (s 2 + 1)) 15 (s 2 + 1)) (j_wr (j_wr J 0 11 (nI (s 2 + 1))) 143 0 (nI (s 2 + 1))) (j_rw (j_wr K 215 2 (nI (s 2 + 1))) 233 (fun t => if 100 * (s 2 + 1) ≤ t ∧ t < 100 * (s 2 + 1) + 100 then 0 else wa t)) := by
  obtain ⟨a0, b0, c0, a1, b1, c1, a2, b2, c2, a3, b3, c3, d3, a4, b4, c4, a5, b5, c5, a6, b6, c6, a7, b7, c7, a8, b8, c8, a9, b9, c9, a10, b10, c10, a11, b11, c11, a12, a15, c15, a14, b14, c14, e1, e2, e3, e4, e5, e6, r1, r2, r3, r4, r5, r6, r7, r8, r9, r10, r11, r12, r13, r14, r15, r16, r17, hwk, hso, hrn, hnu, hpt, hrg, hbx, hor, hsa, hsb, hsc, hsn, hwz, hth, hla, hli, hlt, hpr, hby, htp, hrm, hhd, hlr, hK⟩ := hr
  exact ⟨a0, b0, c0, a1, b1, c1, rfl, rfl, (show s 2 + 1 < 480 by omega), a3, b3, c3, d3, a4, b4, c4, a5, b5, c5, a6, b6, c6, a7, b7, c7, a8, b8, c8, a9, b9, c9, a10, b10, c10, a11, b11, c11, a12, rfl, (show s 2 + 1 ≤ 480 by omega), a14, b14, c14, e1, e2, e3, e4, e5, e6, r1, r2, r3, r4, r5, r6, r7, r8, r9, r10, r11, r12, r13, r14, r15, r16, r17, (by (try simp (disch := decide) only [vw_wr, vw_rw, vw_jvo]); exact hwk), hso, hrn, (by (try simp (disch := decide) only [vw_wr, vw_rw, vw_jvo]); exact hnu), (by (try simp (disch := decide) only [vw_wr, vw_rw, vw_jvo]); exact hpt), (by
    simp (disch := decide) only [vw_wr]
    exact fun i hi => ⟨(by obtain ⟨c, y1, y2⟩ := (hrg i hi).1; exact ⟨c, Nat.le_succ_of_le y1, y2⟩), (hrg i hi).2⟩), (by (try simp (disch := decide) only [vw_wr, vw_rw, vw_jvo]); exact hbx), hor, (by
    simp (disch := decide) only [vw_wr]
    exact sa_wa hsa1 (fun m p hm hp => if_neg (by have : m < s 2 + 1 := hm; have : p < s 1 := hp; omega))), (by simp (disch := decide) only [vw_wr]; exact hsb1), (by (try simp (disch := decide) only [vw_wr, vw_rw, vw_jvo]); exact hsc), (by (try simp (disch := decide) only [vw_wr, vw_rw, vw_jvo]); exact hsn), (show R_wz (s 1) (s 2 + 1) (fun t => if 100 * (s 2 + 1) ≤ t ∧ t < 100 * (s 2 + 1) + 100 then 0 else wa t) from fun p y1 y2 y3 => if_pos (by omega)), (fun k hk => (by obtain ⟨m, q, y1, y2⟩ := hth k hk; exact ⟨m, q, Nat.le_succ_of_le y1, y2⟩)), (by (try simp (disch := decide) only [vw_wr, vw_rw, vw_jvo]); exact hla), hli, (by
    rcases hlt with z | ⟨z1, t, z2, z3⟩
    · exact Or.inl z
    · exact Or.inr ⟨z1, t, Nat.le_succ_of_le z2, z3⟩), hpr, hby, htp, hrm, (by (try simp (disch := decide) only [vw_wr, vw_rw, vw_jvo]); exact hhd), hlr, hK⟩
theorem rr_tick {F : Nat} {s : Nat → Nat} {J K : j_M} {kb : Int32 → Int32 → j_M → Option (Int32 × j_M)} {x1 x2 : Int32} (hF : 20000000 < F) (h : R1 F s J K) (hmi : s 2 < 479) : ∃ K1, (if K 215 2 = 0 then j_bd (f_M_keep F K) (fun _ I => f_M_minutes_42 F kb x1 x2 I) else f_M_minutes_42 F kb x1 x2 K) = f_M_minutes_83 F kb x1 x2 0 K1 ∧ RR F (p_up (p_up s 2 (s 2 + 1)) 15 (s 2 + 1)) (j_wr (j_wr J 0 11 (nI (s 2 + 1))) 143 0 (nI (s 2 + 1))) K1 ∧ frK K K1 := by
  obtain ⟨hr, h1, h2⟩ := h
  have b2 := RR_b2 hr
  by_cases z : s 2 = 0
  · rw [if_pos z] at h2
    obtain ⟨k1, k2, k3⟩ := rr_kept hr (by omega)
    refine ⟨j_rw (j_wr K 215 2 (nI (s 2 + 1))) 233 (fun t => if 100 * (s 2 + 1) ≤ t ∧ t < 100 * (s 2 + 1) + 100 then 0 else k_kp K (s 2) (s 1) t), ?_, rr_tick0 hr hmi k1 k2, frK_rw (by decide) (frK_wr (by decide) (frK_rf _))⟩
    rw [if_pos (by rw [b2, z]; rfl), e_keep (np := s 1) (mi := s 2) hF (RR_b1 hr) (RR_c1 hr) b2 (RR_c2 hr) k3, j_bdS]
    unfold f_M_minutes_42
    have e2 : (j_rw K 233 (k_kp K (s 2) (s 1))) 215 2 = nI (s 2) := b2
    rw [e2, j_letE, nI_1, wr_ne (by decide), e_zero (mi := s 2 + 1) hF rfl (by omega), rw_rw]
    rfl
  · rw [if_neg z] at h2
    refine ⟨j_rw (j_wr K 215 2 (nI (s 2 + 1))) 233 (fun t => if 100 * (s 2 + 1) ≤ t ∧ t < 100 * (s 2 + 1) + 100 then 0 else K 233 t), ?_, rr_tick0 hr hmi (by rw [← h2]; exact RR_hsa hr) (by rw [← h2]; exact RR_hsb hr), frK_rw (by decide) (frK_wr (by decide) (frK_rf _))⟩
    rw [if_neg (by rw [b2]; exact nI_ne0 (by omega) (by have := RR_c2 hr; omega))]
    unfold f_M_minutes_42
    rw [b2, j_letE, nI_1, e_zero (mi := s 2 + 1) hF rfl (by omega)]
    rfl
abbrev m_af (F : Nat) (kb26 : Int32 → Int32 → j_M → Option (Int32 × j_M)) (x1 x2 : Int32) (K : j_M) : Option (Int32 × j_M) := j_bd (f_M_rainsIn F (K 215 2) K) (fun v16 I17 => (if v16 = 0 then f_M_minutes_214 F kb26 x1 x2 I17 else j_bd (f_M_rainsIn F ((I17 215 2) - 1) I17) (fun v18 I19 => (if v18 = 0 then f_M_minutes_163 F kb26 x1 x2 0 I19 else f_M_minutes_214 F kb26 x1 x2 I19))))
theorem pr_seat {F : Nat} {s : Nat → Nat} {J K : j_M} {kb26 : Int32 → Int32 → j_M → Option (Int32 × j_M)} {x1 x2 : Int32} {kc : Int32 → j_M → Option (Int32 × j_M)} {Q : Int32 → j_M → Int32 → j_M → Prop} (hF : 20000000 < F) (hr : RR F s J K) (hdu : ∀ i, i < s 1 → vw 43 100 J i 3 = 1 → ∃ d, s 2 ≤ d ∧ d < 2000000 ∧ vw 43 100 J i 5 = nI d)
    (nx : ∀ s' J' K', (∀ k, k ≠ 12 → s' k = s k) → RR F s' J' K' → R_du (s 1) (s 2) (vw 43 100 J') → frL J J' → frJ J J' → frK K K' → j_wp2 (kc 0 J') (m_af F kb26 x1 x2 K') Q) : j_wp2 (j_bd (f_G_seatArrivals F J) kc) (f_M_minutes_83 F kb26 x1 x2 0 K) Q := by
  have c1 := RR_c1 hr
  unfold f_G_seatArrivals f_G_seatArrivals_2 f_M_minutes_83
  refine j_it2g (fun o1 o2 => j_wp2 (j_bd o1 kc) o2 Q) (Inv := fun k q r => ∃ i s' J' K', i + k = s 1 ∧ q = (nI i, J') ∧ r = (x1, x2, nI i, K') ∧ (∀ k, k ≠ 12 → s' k = s k) ∧ RR F s' J' K' ∧ (∀ j, j < s 1 → vw 43 100 J' j 3 = 1 → ∃ d, s 2 ≤ d ∧ d < 2000000 ∧ (j < i → s 2 < d) ∧ vw 43 100 J' j 5 = nI d) ∧ frL J J' ∧ frJ J J' ∧ frK K K') ?_ F (s 1) _ _ (by omega) ⟨0, s, J, K, by omega, rfl, rfl, fun _ _ => rfl, hr, fun j hj z => ?_, fun _ _ => rfl, frJ_rf _, frK_rf _⟩
  · intro k q r g1 g2 hq hag
    obtain ⟨i, s', J', K', hi, rfl, rfl, hss, hr', hd, fL, f1, f2⟩ := hq
    dsimp only
    unfold f_G_seatArrivals_2b f_M_minutes_83b f_G_seatArrivals_51 f_M_minutes_131
    have s1 : s' 1 = s 1 := hss 1 (by decide)
    have s2 : s' 2 = s 2 := hss 2 (by decide)
    have a1 : J' 41 0 = nI (s 1) := by rw [RR_a1 hr', s1]
    have b1 : K' 215 12 = nI (s 1) := by rw [RR_b1 hr', s1]
    have a2 : J' 0 11 = nI (s 2) := by rw [RR_a2 hr', s2]
    have b2 : K' 215 2 = nI (s 2) := by rw [RR_b2 hr', s2]
    have c2 := RR_c2 hr'
    simp only [a1, b1]
    by_cases e : i = s 1
    · have c : nI (s 1) ≤ nI i := nI_le (by omega) (by omega)
      rw [if_pos c, if_pos c, j_bdS]
      refine nx s' J' K' hss hr' (fun j hj z => ?_) fL f1 f2
      obtain ⟨d, y1, y2, y3, y4⟩ := hd j hj z
      exact ⟨d, y3 (by omega), y2, y4⟩
    · have c : ¬ nI (s 1) ≤ nI i := nI_ge (by omega) (by omega)
      have i100 : i < 100 := by omega
      have o : j_ok (nI i) 100 = true := j_ok_nI i100 (by decide)
      have hi' : i < s' 1 := by omega
      obtain ⟨p1, p2, p3, p4, p5, -⟩ := RR_hpt hr' i hi'
      simp only [if_neg c, o, if_true, j_ix_nI (show i < 2 ^ 31 by omega), j_letE, nI_1, a2, b2]
      have nxt : ∀ s'' J'' K'', (∀ k, k ≠ 12 → s'' k = s k) → RR F s'' J'' K'' → (∀ j, j < s 1 → vw 43 100 J'' j 3 = 1 → ∃ d, s 2 ≤ d ∧ d < 2000000 ∧ (j < i + 1 → s 2 < d) ∧ vw 43 100 J'' j 5 = nI d) → frL J J'' → frJ J J'' → frK K K'' → j_wp2 (j_bd (g1 (nI (i + 1), J'')) kc) (g2 (x1, x2, nI (i + 1), K'')) Q := fun s'' J'' K'' y1 y2 y3 y4 y5 y6 => hag _ _ (k - 1) (by omega) ⟨i + 1, s'', J'', K'', by omega, rfl, rfl, y1, y2, y3, y4, y5, y6⟩
      have e3 : J' (43 + i) 3 = K' 225 i := by rw [vw_at (lo := 43) (hi := 100) (I := J') i100]; exact p3
      have e5 : J' (43 + i) 5 = K' 227 i := by rw [vw_at (lo := 43) (hi := 100) (I := J') i100]; exact p5
      rw [e3, e5]
      by_cases z : K' 225 i = 1
      · have z' : vw 43 100 J' i 3 = 1 := p3.trans z
        obtain ⟨d, y1, y2, y3, y4⟩ := hd i (by omega) z'
        have z5 : K' 227 i = nI d := by rw [← p5]; exact y4
        rw [if_pos z, if_pos z, z5]
        by_cases cd : s 2 < d
        · rw [if_pos (nI_lt cd (by omega)), if_neg (nI_ne (by omega) (by omega) (by omega))]
          refine nxt s' J' K' hss hr' (fun j hj zz => ?_) fL f1 f2
          obtain ⟨d', w1, w2, w3, w4⟩ := hd j hj zz
          by_cases ej : j = i
          · subst ej
            exact ⟨d, y1, y2, fun _ => cd, y4⟩
          · exact ⟨d', w1, w2, fun q => w3 (by omega), w4⟩
        · have ed : d = s 2 := by omega
          rw [if_neg (nI_nlt (by omega) (by omega)), if_pos (by rw [ed])]
          obtain ⟨t1, t2⟩ := pr_settle hr' hi' z'
          rw [t1, bd_bd, j_bdS]
          have hv0 : v0 100 (vup (vup (vup (vup (vw 43 100 J') i 3 0) i 4 (vw 43 100 J' i 4)) i 5 (-1)) i 11 (nI (s' 12))) := v0_up (v0_up (v0_up (v0_up (v0_vw _ _ _) i100) i100) i100) i100
          refine nxt _ _ _ (fun k hk => ?_) t2 (fun j hj zz => ?_) (fun c hc => ?_) ?_ ?_
          · unfold p_up; rw [if_neg hk]; exact hss k hk
          · rw [vw_jvw hv0] at zz ⊢
            by_cases ej : j = i
            · subst ej
              have q0 : vup (vup (vup (vup (vw 43 100 J') j 3 0) j 4 (vw 43 100 J' j 4)) j 5 (-1)) j 11 (nI (s' 12)) j 3 = 0 := vup_at (vw 43 100 J') _ _ _
              exact absurd (q0.symm.trans zz) (by decide)
            · rw [vup_ne _ _ _ _ ej, vup_ne _ _ _ _ ej, vup_ne _ _ _ _ ej, vup_ne _ _ _ _ ej] at zz
              rw [vup_ne _ _ _ _ ej, vup_ne _ _ _ _ ej, vup_ne _ _ _ _ ej, vup_ne _ _ _ _ ej]
              obtain ⟨d', w1, w2, w3, w4⟩ := hd j hj zz
              exact ⟨d', w1, w2, fun q => w3 (by omega), w4⟩
          · rw [jvw_out (by omega), j_wr_cell _ _ _ (show c ≠ 143 by omega), j_wr_cell _ _ _ (show c ≠ 147 by omega), j_wr_cell _ _ _ (show c ≠ 146 by omega), j_wr_cell _ _ _ (show c ≠ 145 by omega), j_wr_cell _ _ _ (show c ≠ 144 by omega)]
            exact fL c hc
          · exact frJ_vw (by decide) (frJ_wr (by decide) (frJ_wr (by decide) (frJ_wr (by decide) (frJ_wr (by decide) (frJ_wr (by decide) f1)))))
          · exact frK_wr (by decide) (frK_wr (by decide) f2)
      · rw [if_neg z, if_neg z]
        refine nxt s' J' K' hss hr' (fun j hj zz => ?_) fL f1 f2
        obtain ⟨d', w1, w2, w3, w4⟩ := hd j hj zz
        by_cases ej : j = i
        · subst ej; exact absurd (p3.symm.trans zz) z
        · exact ⟨d', w1, w2, fun q => w3 (by omega), w4⟩
  · obtain ⟨d, y1, y2, y3⟩ := hdu j hj z
    exact ⟨d, y1, y2, fun q => absurd q (Nat.not_lt_zero _), y3⟩

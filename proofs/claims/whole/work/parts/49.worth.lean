/-! what a price gives -/
theorem rw_ne {J : j_M} {c d : Nat} {g : Nat → Int32} (h : c ≠ d) : j_rw J d g c = J c := by unfold j_rw; rw [if_neg h]
theorem clampE (v : Int32) : (if (0 : Int32) < (if v < 100000 then v else 100000) then (if v < 100000 then v else 100000) else 0) = (if 0 ≤ v then (if v ≤ 100000 then v else 100000) else 0) := by
  have t0 : (0 : Int32).toInt = 0 := by decide
  have t1 : (100000 : Int32).toInt = 100000 := by decide
  by_cases h1 : v < 100000
  · rw [if_pos h1]
    by_cases h2 : 0 < v
    · rw [if_pos h2, if_pos (Int32.le_of_lt h2), if_pos (Int32.le_of_lt h1)]
    · rw [if_neg h2]
      by_cases h3 : 0 ≤ v
      · have : v = 0 := by
          apply Int32.toInt_inj.mp
          rw [Int32.lt_iff_toInt_lt] at h2
          rw [Int32.le_iff_toInt_le] at h3
          omega
        subst this
        rfl
      · rw [if_neg h3]
  · rw [if_neg h1, if_pos (by decide)]
    have h1' := h1
    rw [Int32.lt_iff_toInt_lt] at h1
    rw [if_pos (by rw [Int32.le_iff_toInt_le]; omega)]
    by_cases h2 : v ≤ 100000
    · rw [if_pos h2]
      apply Int32.toInt_inj.mp
      rw [Int32.le_iff_toInt_le] at h2
      omega
    · rw [if_neg h2]
theorem bd_id {α : Type} {o : Option (α × j_M)} : j_bd o (fun v I => some (v, I)) = o := by
  cases o <;> rfl
theorem refclamp {v : Int32} {K : j_M} : (if 0 ≤ v then (if v ≤ 100000 then some (v, K) else some (100000, K)) else some (0, K)) = some ((if 0 ≤ v then (if v ≤ 100000 then v else 100000) else 0), K) := by
  split
  · split <;> rfl
  · rfl
/-- cells that the reckoning of a price uses up -/
def p_scr (J0 K0 J K : j_M) : Prop := (∃ g h, J = j_rw (j_rw J0 209 g) 208 h) ∧ ∃ g h, K = j_rw (j_rw K0 253 g) 254 h
/-- what a price's worth reads -/
def RW (F : Nat) (s : Nat → Nat) (J K : j_M) (i : Nat) : Prop := J 41 0 = nI (s 1) ∧ K 215 12 = nI (s 1) ∧ s 1 ≤ 100 ∧ J 0 11 = nI (s 2) ∧ K 215 2 = nI (s 2) ∧ s 2 < 480 ∧ J 0 10 = nI (s 3) ∧ K 215 1 = nI (s 3) ∧ J 202 0 = nI (s 9) ∧ K 215 52 = nI (s 9) ∧ s 9 ≤ 30 ∧ K 215 7 = nI (s 4) ∧ s 4 ≤ 20 ∧ R_rn (s 4) (J 39) (K 219) (K 220) ∧ R_pr F (s 9) (J 203) (J 204) (K 249) (K 250) (K 251) ∧ J 205 = K 246 ∧ J 206 = K 248 ∧ J 207 = K 247 ∧ (∀ j, j < s 1 → vw 43 100 J j 1 = K 223 j ∧ vw 43 100 J j 3 = K 225 j) ∧ i < s 1 ∧ vw 43 100 J i 10 = K 232 i ∧ ∃ cm, cm ≤ s 2 ∧ vw 43 100 J i 10 = nI cm
theorem RW_of {F : Nat} {s : Nat → Nat} {J K : j_M} {i : Nat} (hr : RR F s J K) (hi : i < s 1) : RW F s J K i := by
  obtain ⟨a0, b0, c0, a1, b1, c1, a2, b2, c2, a3, b3, c3, d3, a4, b4, c4, a5, b5, c5, a6, b6, c6, a7, b7, c7, a8, b8, c8, a9, b9, c9, a10, b10, c10, a11, b11, c11, a12, a15, c15, a14, b14, c14, e1, e2, e3, e4, e5, e6, r1, r2, r3, r4, r5, r6, r7, r8, r9, r10, r11, r12, r13, r14, r15, r16, r17, hwk, hso, hrn, hnu, hpt, hrg, hbx, hor, hsa, hsb, hsc, hsn, hwz, hth, hla, hli, hlt, hpr, hby, htp, hrm, hhd, hlr, hK⟩ := hr
  exact ⟨a1, b1, c1, a2, b2, c2, a3, b3, a9, b9, c9, b4, c4, hrn, hpr, r10, r11, r12, fun j hj => ⟨(hpt j hj).1, (hpt j hj).2.2.1⟩, hi, (hpt i hi).2.2.2.2.2.2.2.2.2, (hrg i hi).1⟩
theorem w_63 {F : Nat} {s : Nat → Nat} {J K : j_M} (hF : 20000000 < F) {i o : Nat} (hr : RW F s J K i) (ho : o < s 9) (x r : Int32) (g g2 : Nat → Int32) (n0 : g 0 = g2 112) (n1 : g 1 = g2 109) : j_wp2 (f_G_worth_63 F (nI o) i x 2 r (j_rw J 209 g)) (f_M_coinsBy_46 F (nI o) (nI i) x 114 r (j_rw K 253 g2)) (fun v J' w K' => v = w ∧ p_scr J K J' K') := by
  obtain ⟨a1, b1, c1, a2, b2, c2, a3, b3, a9, b9, c9, b4, c4, hrn, hpr, r10, r11, r12, hp, hi, p10, cm, hcm, ecm⟩ := hr
  have oi : j_ok (nI i) 100 = true := j_ok_nI (by omega) (by decide)
  have ec2 : J (43 + i) 10 = nI cm := by rw [vw_at (lo := 43) (I := J) (show i < 100 by omega)]; exact ecm
  have ec3 : K 232 i = nI cm := by rw [← p10]; exact ecm
  unfold f_G_worth_63 f_M_coinsBy_46
  simp only [show j_ok (2 : Int32) 8 = true from rfl, show j_ok (3 : Int32) 8 = true from rfl, show j_ok (4 : Int32) 8 = true from rfl, show j_ok (5 : Int32) 8 = true from rfl, show j_ok (6 : Int32) 8 = true from rfl, show j_ok (7 : Int32) 8 = true from rfl, show j_ok (114 : Int32) 128 = true from rfl, show j_ok (110 : Int32) 128 = true from rfl, show j_ok (103 : Int32) 128 = true from rfl, show j_ok (115 : Int32) 128 = true from rfl, show j_ok (99 : Int32) 128 = true from rfl, show j_ok (116 : Int32) 128 = true from rfl, oi, if_true, j_letE, show j_ix 2 = 2 from rfl, show j_ix 3 = 3 from rfl, show j_ix 4 = 4 from rfl, show j_ix 5 = 5 from rfl, show j_ix 6 = 6 from rfl, show j_ix 7 = 7 from rfl, show j_ix 114 = 114 from rfl, show j_ix 110 = 110 from rfl, show j_ix 103 = 103 from rfl, show j_ix 115 = 115 from rfl, show j_ix 99 = 99 from rfl, show j_ix 116 = 116 from rfl, rw_wr, j_ix_nI (show i < 2 ^ 31 by omega)]
  simp (disch := omega) only [rw_ne, ec2, ec3, a2, b2, a3, b3]
  refine wp2_bd (wp2_mono (l_wet (r := s 4) hF hcm c2 hrn c4 b4 b2) ?_)
  rintro v J' w K' ⟨rfl, rfl, rfl⟩
  simp only [rw_wr]
  refine wp2_bd (wp2_mono (l_headsIn (np := s 1) hF a1 b1 c1 (fun j hj => ?_)) ?_)
  · rw [vw_rw (by decide)]; exact hp j hj
  rintro v2 J' w2 K' ⟨rfl, rfl, rfl⟩
  simp only [rw_wr]
  simp (disch := omega) only [rw_ne, ec2, ec3, a2, b2]
  unfold f_Pr_read
  have oo : j_ok (nI o) 30 = true := j_ok_nI (by omega) (by decide)
  simp only [oo, if_true, j_ix_nI (show o < 2 ^ 31 by omega), j_letE]
  simp (disch := omega) only [rw_ne]
  rw [show nI o * 120 = nI (120 * o) by rw [show (120 : Int32) = nI 120 from rfl, pk_mul, Nat.mul_comm]]
  obtain ⟨v3, J', w3, K', f1, f2, rfl, ⟨g3, rfl⟩, ⟨g4, rfl⟩⟩ := hpr o ho (j_rw J 209 (upd (upd (upd (upd (upd (upd g 2 r) 3 (nI (s 3))) 4 v) 5 x) 6 v2) 7 (nI (s 2) - nI cm))) (j_rw K 253 (upd (upd (upd (upd (upd (upd g2 114 r) 110 (nI (s 3))) 103 v) 115 x) 99 v2) 116 (nI (s 2) - nI cm))) (fun _ _ => rfl) rfl rfl (fun _ _ => rfl) (fun _ _ => rfl) ⟨n0, n1, rfl, rfl, rfl, rfl, rfl, rfl⟩
  rw [f1, f2]
  simp only [j_bdS]
  rw [refclamp]
  exact wp2_mk rfl rfl ⟨clampE _, ⟨_, _, rfl⟩, ⟨_, _, rfl⟩⟩
theorem w_worthW {F : Nat} {s : Nat → Nat} {J K : j_M} (hF : 20000000 < F) {i : Nat} (hr : RW F s J K i) (x v w : Int32) (hl : p_lat (s 9) v w) : j_wp2 (f_G_worth F v i x J) (if 0 ≤ w then j_bd (f_M_coinsBy F w (nI i) x K) (fun v3 I4 => some (v3, I4)) else some (0, K)) (fun v J' w K' => v = w ∧ p_scr J K J' K') := by
  have hr0 := hr
  obtain ⟨a1, b1, c1, a2, b2, c2, a3, b3, a9, b9, c9, b4, c4, hrn, hpr, r10, r11, r12, hp, hi, p10, cm, hcm, ecm⟩ := hr
  unfold f_G_worth
  simp only [e_Pr_has, a9, j_bdS, j_letE]
  rcases hl with ⟨rfl, rfl⟩ | ⟨o, ho, rfl, rfl⟩
  · refine wp2_Lp (by rw [if_neg (fun z => absurd z.1 (by decide))]) (wp2_Rn (by decide) (wp2_mk rfl rfl ⟨rfl, ⟨J 209, J 208, ?_⟩, ⟨K 253, K 254, ?_⟩⟩))
    · rw [rw_self, rw_self]
    · rw [rw_self, rw_self]
  · refine wp2_Ln (by rw [if_pos ⟨nI_pos' (by omega), nI_lt ho (by omega)⟩]; decide) (wp2_Rp (nI_pos' (by omega)) ?_)
    unfold f_M_coinsBy
    have p1 := (hp i hi).1
    have oi : j_ok (nI i) 100 = true := j_ok_nI (by omega) (by decide)
    simp only [oi, show j_ok (0 : Int32) 8 = true from rfl, show j_ok (1 : Int32) 8 = true from rfl, show j_ok (112 : Int32) 128 = true from rfl, show j_ok (109 : Int32) 128 = true from rfl, show j_ix 0 = 0 from rfl, show j_ix 1 = 1 from rfl, show j_ix 112 = 112 from rfl, show j_ix 109 = 109 from rfl, if_true, j_letE, j_ix_nI (show i < 2 ^ 31 by omega), vw_at (show i < 100 by omega), p1]
    rw [wr_rw (J := J) (c := 209) (k := 0), wr_rw (J := K) (c := 253) (k := 112), bd_id]
    simp only [rw_wr]
    simp (disch := omega) only [rw_ne, a2, b2]
    rw [e_rains c2, e_rainsIn (K := j_rw K 253 (upd (upd (K 253) 112 (K 223 i)) 109 (nI (s 2)))) (r := s 4) hF c2 hrn c4 b4]
    have e0 : (if J 39 (s 2) = 0 then (0 : Int32) else 1) = J 39 (s 2) := by
      rcases (hrn (s 2) c2).1 with w | w <;> rw [w] <;> rfl
    rw [show (j_rw J 209 (upd (upd (J 209) 0 (K 223 i)) 1 (nI (s 2)))) 39 = J 39 from rfl, e0]
    simp only [j_bdS]
    have fin : ∀ r, j_wp2 (f_G_worth_63 F (nI o) i x 2 r (j_rw J 209 (upd (upd (J 209) 0 (K 223 i)) 1 (nI (s 2))))) (f_M_coinsBy_46 F (nI o) (nI i) x 114 r (j_rw K 253 (upd (upd (K 253) 112 (K 223 i)) 109 (nI (s 2))))) (fun v J' w K' => v = w ∧ p_scr J K J' K') := fun r => w_63 hF hr0 ho x r _ _ rfl rfl
    exact wp2_ite Iff.rfl (fun _ => fin 0) (fun _ => fin 1)
theorem w_worth {F : Nat} {s : Nat → Nat} {J K : j_M} (hF : 20000000 < F) (hr : RR F s J K) {i : Nat} (hi : i < s 1) (x v w : Int32) (hl : p_lat (s 9) v w) : j_wp2 (f_G_worth F v i x J) (if 0 ≤ w then j_bd (f_M_coinsBy F w (nI i) x K) (fun v3 I4 => some (v3, I4)) else some (0, K)) (fun v J' w K' => v = w ∧ p_scr J K J' K') := w_worthW hF (RW_of hr hi) x v w hl

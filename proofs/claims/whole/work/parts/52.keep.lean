-- passesAll (wip/whole/passall.py)
theorem pr_k57 (I : II) (K : Nat → Int) : pr (pr I 80 K) 57 (I 57) = pr I 80 K := by
  have h := pr_id (pr I 80 K) 57
  rw [pr_o (by omega)] at h
  exact h
def kAll0 (I : II) : Nat → Int := uf (uf (uf (uf (uf (uf (uf (uf (kpy (kpy (kpy (kpy (kpy (kpy (kpy (kpy (kpy (kpy (kpy (kpy (kpy (kpy (I 80) (I 59) 0 14) (I 60) 14 14) (I 61) 28 14) (I 62) 42 7) (I 63) 49 7) (I 64) 56 7) (I 65) 63 7) (I 66) 70 4) (I 67) 74 8) (I 68) 82 8) (I 69) 90 4) (I 70) 94 4) (I 71) 98 8) (I 81) 106 7) 113 (I 57 14)) 114 (I 57 15)) 115 (I 57 16)) 116 (I 57 17)) 117 (I 57 18)) 118 (I 57 35)) 119 (I 57 36)) 120 (I 57 37)
def rAll0 (I : II) : II := pr (pr (pr (pr (pr (pr (pr (pr (pr (pr (pr (pr (pr (pr (pr (I) 59 (fll (fun j => I 80 (0 + j)) 14 (I 59))) 60 (fll (fun j => I 80 (14 + j)) 14 (I 60))) 61 (fll (fun j => I 80 (28 + j)) 14 (I 61))) 62 (fll (fun j => I 80 (42 + j)) 7 (I 62))) 63 (fll (fun j => I 80 (49 + j)) 7 (I 63))) 64 (fll (fun j => I 80 (56 + j)) 7 (I 64))) 65 (fll (fun j => I 80 (63 + j)) 7 (I 65))) 66 (fll (fun j => I 80 (70 + j)) 4 (I 66))) 67 (fll (fun j => I 80 (74 + j)) 8 (I 67))) 68 (fll (fun j => I 80 (82 + j)) 8 (I 68))) 69 (fll (fun j => I 80 (90 + j)) 4 (I 69))) 70 (fll (fun j => I 80 (94 + j)) 4 (I 70))) 71 (fll (fun j => I 80 (98 + j)) 8 (I 71))) 81 (fll (fun j => I 80 (106 + j)) 7 (I 81))) 57 (uf (uf (uf (uf (uf (uf (uf (uf (I 57) 14 (I 80 113)) 15 (I 80 114)) 16 (I 80 115)) 17 (I 80 116)) 18 (I 80 117)) 35 (I 80 118)) 36 (I 80 119)) 37 (I 80 120))
set_option maxHeartbeats 4000000 in
theorem ct_keep0 {g : GG} {I : II} {d : Nat} (hW : WM g) (Q : QQ) : WP (d + 1) m_X12_passesAll 0 [some (vr (some 57)), some (vi 0), some (vi 1)] [] g I Q = Q none g (sP 1 (pr I 80 (kAll0 I)) 121) := by
  unfold kAll0
  have k59 : gK g 59 = (1, 14) := by simp only [hW]
  have k60 : gK g 60 = (1, 14) := by simp only [hW]
  have k61 : gK g 61 = (1, 14) := by simp only [hW]
  have k62 : gK g 62 = (1, 7) := by simp only [hW]
  have k63 : gK g 63 = (1, 7) := by simp only [hW]
  have k64 : gK g 64 = (1, 7) := by simp only [hW]
  have k65 : gK g 65 = (1, 7) := by simp only [hW]
  have k66 : gK g 66 = (1, 4) := by simp only [hW]
  have k67 : gK g 67 = (1, 8) := by simp only [hW]
  have k68 : gK g 68 = (1, 8) := by simp only [hW]
  have k69 : gK g 69 = (1, 4) := by simp only [hW]
  have k70 : gK g 70 = (1, 4) := by simp only [hW]
  have k71 : gK g 71 = (1, 8) := by simp only [hW]
  have k81 : gK g 81 = (1, 7) := by simp only [hW]
  have e0 : pr I 57 (uf (uf (I 57) 33 (200 * 0)) 32 1) = sP 1 I 0 := sP_ini (c := 0) I (200 * 0) (by decide)
  simp (config := { contextual := true }) (disch := omega) only [R_X12_passesAll_b0, R_X12_passesAll_b1, R_X12_passesAll_b2, hW, up_pr, pr_s, pr_o, pr_pr, e0, ctK (a := 59) (n := 14) hW k59 (by decide), ctK (a := 60) (n := 14) hW k60 (by decide), ctK (a := 61) (n := 14) hW k61 (by decide), ctK (a := 62) (n := 7) hW k62 (by decide), ctK (a := 63) (n := 7) hW k63 (by decide), ctK (a := 64) (n := 7) hW k64 (by decide), ctK (a := 65) (n := 7) hW k65 (by decide), ctK (a := 66) (n := 4) hW k66 (by decide), ctK (a := 67) (n := 8) hW k67 (by decide), ctK (a := 68) (n := 8) hW k68 (by decide), ctK (a := 69) (n := 4) hW k69 (by decide), ctK (a := 70) (n := 4) hW k70 (by decide), ctK (a := 71) (n := 8) hW k71 (by decide), ctK (a := 81) (n := 7) hW k81 (by decide), c1K hW, sP_f, sP_put, uf_id, pr_k57, true_and, and_true, true_implies, not_true_eq_false, false_implies, not_false_eq_true, false_and, and_false, or_true, true_or, false_or, or_false, implies_true, forall_const, kl_i, kl_n, kl_r, kl_l, tl_s, tl_n, List.cons_append, List.nil_append, Int.cast_ofNat_Int, w32_id, w64_id, le_T, le_F, lt_T, lt_F, eq_T, eq_F, reduceIte, ne_eq, Int.toNat_natCast, bi_0, bi_1, bi_b, Nat.reduceAdd, Nat.reduceEqDiff, Int.reduceToNat, Int.reduceNeg, nle_T, nlt_T, neq_T, neq_F, b2_0, b2_b, both, reduceCtorEq]
set_option maxHeartbeats 4000000 in
theorem ct_back0 {g : GG} {I : II} {d : Nat} (hW : WM g) (Q : QQ) : WP (d + 1) m_X12_passesAll 0 [some (vr (some 57)), some (vi 0), some (vi 0)] [] g I Q = Q none g (sP 0 (rAll0 I) 121) := by
  unfold rAll0
  have k59 : gK g 59 = (1, 14) := by simp only [hW]
  have k60 : gK g 60 = (1, 14) := by simp only [hW]
  have k61 : gK g 61 = (1, 14) := by simp only [hW]
  have k62 : gK g 62 = (1, 7) := by simp only [hW]
  have k63 : gK g 63 = (1, 7) := by simp only [hW]
  have k64 : gK g 64 = (1, 7) := by simp only [hW]
  have k65 : gK g 65 = (1, 7) := by simp only [hW]
  have k66 : gK g 66 = (1, 4) := by simp only [hW]
  have k67 : gK g 67 = (1, 8) := by simp only [hW]
  have k68 : gK g 68 = (1, 8) := by simp only [hW]
  have k69 : gK g 69 = (1, 4) := by simp only [hW]
  have k70 : gK g 70 = (1, 4) := by simp only [hW]
  have k71 : gK g 71 = (1, 8) := by simp only [hW]
  have k81 : gK g 81 = (1, 7) := by simp only [hW]
  have e0 : pr I 57 (uf (uf (I 57) 33 (200 * 0)) 32 0) = sP 0 I 0 := sP_ini (c := 0) I (200 * 0) (by decide)
  simp (config := { contextual := true }) (disch := omega) only [R_X12_passesAll_b0, R_X12_passesAll_b1, R_X12_passesAll_b2, hW, up_pr, pr_s, pr_o, pr_pr, e0, ctR (a := 59) (n := 14) hW k59 (by decide), ctR (a := 60) (n := 14) hW k60 (by decide), ctR (a := 61) (n := 14) hW k61 (by decide), ctR (a := 62) (n := 7) hW k62 (by decide), ctR (a := 63) (n := 7) hW k63 (by decide), ctR (a := 64) (n := 7) hW k64 (by decide), ctR (a := 65) (n := 7) hW k65 (by decide), ctR (a := 66) (n := 4) hW k66 (by decide), ctR (a := 67) (n := 8) hW k67 (by decide), ctR (a := 68) (n := 8) hW k68 (by decide), ctR (a := 69) (n := 4) hW k69 (by decide), ctR (a := 70) (n := 4) hW k70 (by decide), ctR (a := 71) (n := 8) hW k71 (by decide), ctR (a := 81) (n := 7) hW k81 (by decide), c1R hW, sP_f, sP_put, true_and, and_true, true_implies, not_true_eq_false, false_implies, not_false_eq_true, false_and, and_false, or_true, true_or, false_or, or_false, implies_true, forall_const, kl_i, kl_n, kl_r, kl_l, tl_s, tl_n, List.cons_append, List.nil_append, Int.cast_ofNat_Int, w32_id, w64_id, le_T, le_F, lt_T, lt_F, eq_T, eq_F, reduceIte, ne_eq, Int.toNat_natCast, bi_0, bi_1, bi_b, Nat.reduceAdd, Nat.reduceEqDiff, Int.reduceToNat, Int.reduceNeg, nle_T, nlt_T, neq_T, neq_F, b2_0, b2_b, both, reduceCtorEq]
def kAll200 (I : II) : Nat → Int := uf (uf (uf (uf (uf (uf (uf (uf (kpy (kpy (kpy (kpy (kpy (kpy (kpy (kpy (kpy (kpy (kpy (kpy (kpy (kpy (I 80) (I 59) 200 14) (I 60) 214 14) (I 61) 228 14) (I 62) 242 7) (I 63) 249 7) (I 64) 256 7) (I 65) 263 7) (I 66) 270 4) (I 67) 274 8) (I 68) 282 8) (I 69) 290 4) (I 70) 294 4) (I 71) 298 8) (I 81) 306 7) 313 (I 57 14)) 314 (I 57 15)) 315 (I 57 16)) 316 (I 57 17)) 317 (I 57 18)) 318 (I 57 35)) 319 (I 57 36)) 320 (I 57 37)
def rAll200 (I : II) : II := pr (pr (pr (pr (pr (pr (pr (pr (pr (pr (pr (pr (pr (pr (pr (I) 59 (fll (fun j => I 80 (200 + j)) 14 (I 59))) 60 (fll (fun j => I 80 (214 + j)) 14 (I 60))) 61 (fll (fun j => I 80 (228 + j)) 14 (I 61))) 62 (fll (fun j => I 80 (242 + j)) 7 (I 62))) 63 (fll (fun j => I 80 (249 + j)) 7 (I 63))) 64 (fll (fun j => I 80 (256 + j)) 7 (I 64))) 65 (fll (fun j => I 80 (263 + j)) 7 (I 65))) 66 (fll (fun j => I 80 (270 + j)) 4 (I 66))) 67 (fll (fun j => I 80 (274 + j)) 8 (I 67))) 68 (fll (fun j => I 80 (282 + j)) 8 (I 68))) 69 (fll (fun j => I 80 (290 + j)) 4 (I 69))) 70 (fll (fun j => I 80 (294 + j)) 4 (I 70))) 71 (fll (fun j => I 80 (298 + j)) 8 (I 71))) 81 (fll (fun j => I 80 (306 + j)) 7 (I 81))) 57 (uf (uf (uf (uf (uf (uf (uf (uf (I 57) 14 (I 80 313)) 15 (I 80 314)) 16 (I 80 315)) 17 (I 80 316)) 18 (I 80 317)) 35 (I 80 318)) 36 (I 80 319)) 37 (I 80 320))
set_option maxHeartbeats 4000000 in
theorem ct_keep200 {g : GG} {I : II} {d : Nat} (hW : WM g) (Q : QQ) : WP (d + 1) m_X12_passesAll 0 [some (vr (some 57)), some (vi 1), some (vi 1)] [] g I Q = Q none g (sP 1 (pr I 80 (kAll200 I)) 321) := by
  unfold kAll200
  have k59 : gK g 59 = (1, 14) := by simp only [hW]
  have k60 : gK g 60 = (1, 14) := by simp only [hW]
  have k61 : gK g 61 = (1, 14) := by simp only [hW]
  have k62 : gK g 62 = (1, 7) := by simp only [hW]
  have k63 : gK g 63 = (1, 7) := by simp only [hW]
  have k64 : gK g 64 = (1, 7) := by simp only [hW]
  have k65 : gK g 65 = (1, 7) := by simp only [hW]
  have k66 : gK g 66 = (1, 4) := by simp only [hW]
  have k67 : gK g 67 = (1, 8) := by simp only [hW]
  have k68 : gK g 68 = (1, 8) := by simp only [hW]
  have k69 : gK g 69 = (1, 4) := by simp only [hW]
  have k70 : gK g 70 = (1, 4) := by simp only [hW]
  have k71 : gK g 71 = (1, 8) := by simp only [hW]
  have k81 : gK g 81 = (1, 7) := by simp only [hW]
  have e0 : pr I 57 (uf (uf (I 57) 33 (200 * 1)) 32 1) = sP 1 I 200 := sP_ini (c := 200) I (200 * 1) (by decide)
  simp (config := { contextual := true }) (disch := omega) only [R_X12_passesAll_b0, R_X12_passesAll_b1, R_X12_passesAll_b2, hW, up_pr, pr_s, pr_o, pr_pr, e0, ctK (a := 59) (n := 14) hW k59 (by decide), ctK (a := 60) (n := 14) hW k60 (by decide), ctK (a := 61) (n := 14) hW k61 (by decide), ctK (a := 62) (n := 7) hW k62 (by decide), ctK (a := 63) (n := 7) hW k63 (by decide), ctK (a := 64) (n := 7) hW k64 (by decide), ctK (a := 65) (n := 7) hW k65 (by decide), ctK (a := 66) (n := 4) hW k66 (by decide), ctK (a := 67) (n := 8) hW k67 (by decide), ctK (a := 68) (n := 8) hW k68 (by decide), ctK (a := 69) (n := 4) hW k69 (by decide), ctK (a := 70) (n := 4) hW k70 (by decide), ctK (a := 71) (n := 8) hW k71 (by decide), ctK (a := 81) (n := 7) hW k81 (by decide), c1K hW, sP_f, sP_put, uf_id, pr_k57, true_and, and_true, true_implies, not_true_eq_false, false_implies, not_false_eq_true, false_and, and_false, or_true, true_or, false_or, or_false, implies_true, forall_const, kl_i, kl_n, kl_r, kl_l, tl_s, tl_n, List.cons_append, List.nil_append, Int.cast_ofNat_Int, w32_id, w64_id, le_T, le_F, lt_T, lt_F, eq_T, eq_F, reduceIte, ne_eq, Int.toNat_natCast, bi_0, bi_1, bi_b, Nat.reduceAdd, Nat.reduceEqDiff, Int.reduceToNat, Int.reduceNeg, nle_T, nlt_T, neq_T, neq_F, b2_0, b2_b, both, reduceCtorEq]
set_option maxHeartbeats 4000000 in
theorem ct_back200 {g : GG} {I : II} {d : Nat} (hW : WM g) (Q : QQ) : WP (d + 1) m_X12_passesAll 0 [some (vr (some 57)), some (vi 1), some (vi 0)] [] g I Q = Q none g (sP 0 (rAll200 I) 321) := by
  unfold rAll200
  have k59 : gK g 59 = (1, 14) := by simp only [hW]
  have k60 : gK g 60 = (1, 14) := by simp only [hW]
  have k61 : gK g 61 = (1, 14) := by simp only [hW]
  have k62 : gK g 62 = (1, 7) := by simp only [hW]
  have k63 : gK g 63 = (1, 7) := by simp only [hW]
  have k64 : gK g 64 = (1, 7) := by simp only [hW]
  have k65 : gK g 65 = (1, 7) := by simp only [hW]
  have k66 : gK g 66 = (1, 4) := by simp only [hW]
  have k67 : gK g 67 = (1, 8) := by simp only [hW]
  have k68 : gK g 68 = (1, 8) := by simp only [hW]
  have k69 : gK g 69 = (1, 4) := by simp only [hW]
  have k70 : gK g 70 = (1, 4) := by simp only [hW]
  have k71 : gK g 71 = (1, 8) := by simp only [hW]
  have k81 : gK g 81 = (1, 7) := by simp only [hW]
  have e0 : pr I 57 (uf (uf (I 57) 33 (200 * 1)) 32 0) = sP 0 I 200 := sP_ini (c := 200) I (200 * 1) (by decide)
  simp (config := { contextual := true }) (disch := omega) only [R_X12_passesAll_b0, R_X12_passesAll_b1, R_X12_passesAll_b2, hW, up_pr, pr_s, pr_o, pr_pr, e0, ctR (a := 59) (n := 14) hW k59 (by decide), ctR (a := 60) (n := 14) hW k60 (by decide), ctR (a := 61) (n := 14) hW k61 (by decide), ctR (a := 62) (n := 7) hW k62 (by decide), ctR (a := 63) (n := 7) hW k63 (by decide), ctR (a := 64) (n := 7) hW k64 (by decide), ctR (a := 65) (n := 7) hW k65 (by decide), ctR (a := 66) (n := 4) hW k66 (by decide), ctR (a := 67) (n := 8) hW k67 (by decide), ctR (a := 68) (n := 8) hW k68 (by decide), ctR (a := 69) (n := 4) hW k69 (by decide), ctR (a := 70) (n := 4) hW k70 (by decide), ctR (a := 71) (n := 8) hW k71 (by decide), ctR (a := 81) (n := 7) hW k81 (by decide), c1R hW, sP_f, sP_put, true_and, and_true, true_implies, not_true_eq_false, false_implies, not_false_eq_true, false_and, and_false, or_true, true_or, false_or, or_false, implies_true, forall_const, kl_i, kl_n, kl_r, kl_l, tl_s, tl_n, List.cons_append, List.nil_append, Int.cast_ofNat_Int, w32_id, w64_id, le_T, le_F, lt_T, lt_F, eq_T, eq_F, reduceIte, ne_eq, Int.toNat_natCast, bi_0, bi_1, bi_b, Nat.reduceAdd, Nat.reduceEqDiff, Int.reduceToNat, Int.reduceNeg, nle_T, nlt_T, neq_T, neq_F, b2_0, b2_b, both, reduceCtorEq]

-- passesAll, over the states sP b X c (b: keeping, c: the cursor)
def sP (b : Int) (X : II) (c : Nat) : II := pr X 57 (uf (uf (X 57) 32 b) 33 c)
section ALL
variable {g : GG} {X : II} {d a n c : Nat} {b : Int}
theorem sP_o (h : ¬ a = 57) : sP b X c a = X a := pr_o h
theorem sP_f {j : Nat} (h : ¬ j = 32 ∧ ¬ j = 33) : sP b X c 57 j = X 57 j := by
  unfold sP
  rw [pr_s, uf_o h.2, uf_o h.1]
theorem sP_32 : sP b X c 57 32 = b := by
  unfold sP
  rw [pr_s, uf_o (by omega), uf_s]
theorem sP_33 : sP b X c 57 33 = (c : Int) := by
  unfold sP
  rw [pr_s, uf_s]
theorem sP_put {j : Nat} {v : Int} (h : ¬ j = 32 ∧ ¬ j = 33) : pr (sP b X c) 57 (uf (sP b X c 57) j v) = sP b (pr X 57 (uf (X 57) j v)) c := by
  funext q i
  unfold sP pr uf
  by_cases e : q = 57
  · subst e
    by_cases e1 : i = j
    · subst e1; simp [h.1, h.2]
    · simp [e1]
  · simp [e]
theorem sP_cur {c' : Nat} : pr (sP b X c) 57 (uf (sP b X c 57) 33 (c' : Int)) = sP b X c' := by
  unfold sP
  rw [pr_s, pr_pr, uf_uf]
theorem sP_row {f : Nat → Int} (h : ¬ a = 57) : pr (sP b X c) a f = sP b (pr X a f) c := by
  unfold sP
  rw [pr_o (I := X) (a := a) (f := f) (by omega : ¬ 57 = a)]
  funext q
  unfold pr
  by_cases e : q = a
  · rw [if_pos e, if_neg (by omega), if_pos e]
  · rw [if_neg e]
    by_cases e2 : q = 57
    · rw [if_pos e2, if_pos e2]
    · rw [if_neg e2, if_neg e2, if_neg e]
theorem sP_ini (I : II) (c0 : Int) (hc : c0 = (c : Int)) : pr I 57 (uf (uf (I 57) 33 c0) 32 b) = sP b I c := by
  subst hc
  unfold sP
  congr 1
  funext j
  unfold uf
  by_cases e : j = 32
  · subst e; simp
  · by_cases e2 : j = 33
    · subst e2; simp
    · simp [e, e2]
theorem ctK (hW : WM g) (hk : gK g a = (1, n)) (ha : ¬ a = 57 ∧ ¬ a = 80) (Q : QQ) (hc : c + n ≤ 400) : WP d m_X12_passes 0 [some (vr (some 57)), some (vr (some a)), none] [] g (sP 1 X c) Q = Q none g (sP 1 (pr X 80 (kpy (X 80) (X a) c n)) (c + n)) := by
  rw [ct_psK hW hk ha sP_32 sP_33 hc, sP_o (by omega), sP_o ha.1, sP_row (by omega)]
  have e : uf (sP 1 X c 57) 33 ((c + n : Nat) : Int) = uf (sP 1 (pr X 80 (kpy (X 80) (X a) c n)) c 57) 33 ((c + n : Nat) : Int) := by
    unfold sP
    rw [pr_s, pr_s, pr_o (by omega)]
  rw [e, sP_cur]
theorem ctR (hW : WM g) (hk : gK g a = (1, n)) (ha : ¬ a = 57 ∧ ¬ a = 80) (Q : QQ) (hc : c + n ≤ 400) : WP d m_X12_passes 0 [some (vr (some 57)), some (vr (some a)), none] [] g (sP 0 X c) Q = Q none g (sP 0 (pr X a (fll (fun j => X 80 (c + j)) n (X a))) (c + n)) := by
  rw [ct_psR hW hk ha sP_32 sP_33 hc, sP_o (by omega), sP_o ha.1, sP_row ha.1]
  have e : uf (sP 0 X c 57) 33 ((c + n : Nat) : Int) = uf (sP 0 (pr X a (fll (fun j => X 80 (c + j)) n (X a))) c 57) 33 ((c + n : Nat) : Int) := by
    unfold sP
    rw [pr_s, pr_s, pr_o (by omega)]
  rw [e, sP_cur]
theorem c1K (hW : WM g) (v : Int) (Q : QQ) (hc : c < 400) : WP d m_X12_passOne 0 [some (vr (some 57)), some (vi v), none] [] g (sP 1 X c) Q = Q (some (vi v)) g (sP 1 (pr X 80 (uf (X 80) c v)) (c + 1)) := by
  rw [ct_p1K hW sP_32 sP_33 hc, sP_o (by omega), sP_row (by omega)]
  have e : uf (sP 1 X c 57) 33 ((c + 1 : Nat) : Int) = uf (sP 1 (pr X 80 (uf (X 80) c v)) c 57) 33 ((c + 1 : Nat) : Int) := by
    unfold sP
    rw [pr_s, pr_s, pr_o (by omega)]
  rw [e, sP_cur]
theorem c1R (hW : WM g) (v : Int) (Q : QQ) (hc : c < 400) : WP d m_X12_passOne 0 [some (vr (some 57)), some (vi v), none] [] g (sP 0 X c) Q = Q (some (vi (X 80 c))) g (sP 0 X (c + 1)) := by
  rw [ct_p1R hW sP_32 sP_33 hc, sP_o (by omega), sP_cur]
end ALL

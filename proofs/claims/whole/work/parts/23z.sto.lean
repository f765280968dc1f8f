-- stores into the locals, by recursion (for long rows of locals)
def so : LL → Nat → PV → LL
  | [], _, _ => []
  | _ :: r, 0, v => some v :: r
  | x :: r, 1, v => kl x :: so r 0 v
  | x :: r, n + 2, v => x :: so r (n + 1) v
def so2 : LL → Nat → PV → LL
  | [], _, _ => []
  | _ :: r, 0, v => some v :: (match r with | [] => [] | _ :: q => none :: q)
  | x :: r, 1, v => kl x :: so2 r 0 v
  | x :: r, n + 2, v => x :: so2 r (n + 1) v
theorem mi_cg {f h : Nat → Option PV → Option PV} (e : ∀ j x, f j x = h j x) (l : LL) : l.mapIdx f = l.mapIdx h := by
  have : f = h := by funext j x; exact e j x
  rw [this]
theorem mi_id (l : LL) : ∀ {f : Nat → Option PV → Option PV}, (∀ j x, f j x = x) → l.mapIdx f = l := by
  induction l with
  | nil => intro f e; rfl
  | cons x r ih => intro f e; rw [List.mapIdx_cons, e, ih (fun j y => e (j + 1) y)]
theorem sto_so (ls : LL) (i : Nat) (v : PV) : sto ls i v = so ls i v := by
  induction ls generalizing i with
  | nil => rfl
  | cons x r ih =>
    match i with
    | 0 =>
      unfold sto so
      rw [List.mapIdx_cons, mi_id]
      · rfl
      · intro j y
        rw [if_neg (by omega), if_neg (by omega)]
    | 1 =>
      unfold so
      rw [← ih]
      unfold sto
      rw [List.mapIdx_cons]
      refine congr (congrArg _ rfl) (mi_cg (fun j y => ?_) r)
      by_cases h1 : j = 0
      · rw [if_pos (by omega), if_pos h1]
      · rw [if_neg (by omega), if_neg h1, if_neg (by omega), if_neg (by omega)]
    | n + 2 =>
      unfold so
      rw [← ih]
      unfold sto
      rw [List.mapIdx_cons, if_neg (by omega), if_neg (by omega)]
      refine congrArg _ (mi_cg (fun j y => ?_) r)
      by_cases h1 : j = n + 1
      · rw [if_pos (by omega), if_pos h1]
      · rw [if_neg (by omega), if_neg h1]
        by_cases h2 : j = n
        · rw [if_pos (by omega), if_pos (by omega)]
        · rw [if_neg (by omega), if_neg (by omega)]
theorem sto2_so (ls : LL) (i : Nat) (v : PV) : sto2 ls i v = so2 ls i v := by
  induction ls generalizing i with
  | nil => rfl
  | cons x r ih =>
    match i with
    | 0 =>
      unfold sto2 so2
      rw [List.mapIdx_cons, if_pos rfl]
      refine congrArg _ ?_
      cases r with
      | nil => rfl
      | cons y q =>
        rw [List.mapIdx_cons, if_neg (by omega), if_pos (by omega), mi_id]
        intro j z
        rw [if_neg (by omega), if_neg (by omega), if_neg (by omega)]
    | 1 =>
      unfold so2
      rw [← ih]
      unfold sto2
      rw [List.mapIdx_cons, if_neg (by omega), if_neg (by omega), if_pos (by omega)]
      refine congrArg _ (mi_cg (fun j y => ?_) r)
      by_cases h1 : j = 0
      · rw [if_pos (by omega), if_pos h1]
      · rw [if_neg (by omega), if_neg h1]
        by_cases h2 : j = 1
        · rw [if_pos (by omega), if_pos (by omega)]
        · rw [if_neg (by omega), if_neg (by omega), if_neg (by omega), if_neg (by omega)]
    | n + 2 =>
      unfold so2
      rw [← ih]
      unfold sto2
      rw [List.mapIdx_cons, if_neg (by omega), if_neg (by omega), if_neg (by omega)]
      refine congrArg _ (mi_cg (fun j y => ?_) r)
      by_cases h1 : j = n + 1
      · rw [if_pos (by omega), if_pos h1]
      · rw [if_neg (by omega), if_neg h1]
        by_cases h3 : j = n + 2
        · rw [if_pos (by omega), if_pos (by omega)]
        · rw [if_neg (by omega : ¬ j + 1 = n + 2 + 1), if_neg (by omega : ¬ j = n + 1 + 1)]
          by_cases h2 : j = n
          · rw [if_pos (by omega), if_pos (by omega)]
          · rw [if_neg (by omega), if_neg (by omega)]

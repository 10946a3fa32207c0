/-! The table as rows, and the rows as segments one behind the other. -/
abbrev pD : Type := pDoc × Nat × Nat
abbrev tag (k : Nat) (x : pD) : pRow := (x.1, k, x.2)
def flat : Nat → List (List pD) → List pRow
  | _, [] => []
  | k, g :: r => g.map (tag k) ++ flat (k + 1) r
theorem flat_c (k : Nat) (g : List pD) (r : List (List pD)) : flat k (g :: r) = g.map (tag k) ++ flat (k + 1) r := rfl
theorem dropS_app (t : Nat) (A B : List pRow) : dropS t (A ++ B) = dropS t A ++ dropS t B := by
  induction A with
  | nil => rfl
  | cons r A ih =>
    rw [List.cons_append, dropS_c, dropS_c, ih]
    split
    · rfl
    · rfl
theorem dropS_self (k : Nat) (g : List pD) : dropS k (g.map (tag k)) = [] := by
  induction g with
  | nil => rfl
  | cons x g ih => rw [List.map_cons, dropS_c, if_pos rfl, ih]
theorem dropS_lt {k t : Nat} (h : k < t) (g : List pD) : dropS t (g.map (tag k)) = g.map (tag k) := by
  induction g with
  | nil => rfl
  | cons x g ih => rw [List.map_cons, dropS_c, if_neg (show ¬ k = t by omega), if_neg (show ¬ t < k by omega), ih]
theorem dropS_gt {k t : Nat} (h : t < k) (g : List pD) : dropS t (g.map (tag k)) = g.map (tag (k - 1)) := by
  induction g with
  | nil => rfl
  | cons x g ih => rw [List.map_cons, dropS_c, if_neg (show ¬ k = t by omega), if_pos (show t < k by omega), ih]; rfl
theorem dropS_flat_gt {t : Nat} : ∀ (r : List (List pD)) (k : Nat), t < k → dropS t (flat k r) = flat (k - 1) r := by
  intro r
  induction r with
  | nil => intro k _; rfl
  | cons g r ih => intro k h; rw [flat_c, flat_c, dropS_app, dropS_gt h, ih (k + 1) (by omega), show k + 1 - 1 = k - 1 + 1 by omega]
theorem flat_drop : ∀ (r : List (List pD)) (s k : Nat), s < r.length → dropS (k + s) (flat k r) = flat k (r.eraseIdx s) := by
  intro r
  induction r with
  | nil => intro s k h; cases h
  | cons g r ih =>
    intro s k h
    cases s with
    | zero => rw [flat_c, dropS_app, Nat.add_zero, dropS_self, dropS_flat_gt r (k + 1) (by omega)]; rfl
    | succ s =>
      rw [flat_c, dropS_app, dropS_lt (by omega), show k + (s + 1) = (k + 1) + s by omega, ih s (k + 1) (by rw [List.length_cons] at h; omega)]
      rfl
def selS (s : Nat) : List pRow → List pD
  | [] => []
  | r :: A => if r.2.1 = s then (r.1, r.2.2) :: selS s A else selS s A
theorem selS_c (s : Nat) (r : pRow) (A : List pRow) : selS s (r :: A) = if r.2.1 = s then (r.1, r.2.2) :: selS s A else selS s A := rfl
theorem selS_app (t : Nat) (A B : List pRow) : selS t (A ++ B) = selS t A ++ selS t B := by
  induction A with
  | nil => rfl
  | cons r A ih =>
    rw [List.cons_append, selS_c, selS_c, ih]
    split
    · rfl
    · rfl
theorem selS_self (k : Nat) (g : List pD) : selS k (g.map (tag k)) = g := by
  induction g with
  | nil => rfl
  | cons x g ih => rw [List.map_cons, selS_c, if_pos rfl, ih]
theorem selS_ne {k t : Nat} (h : ¬ k = t) (g : List pD) : selS t (g.map (tag k)) = [] := by
  induction g with
  | nil => rfl
  | cons x g ih => rw [List.map_cons, selS_c, if_neg h, ih]
theorem selS_flat_gt {t : Nat} : ∀ (r : List (List pD)) (k : Nat), t < k → selS t (flat k r) = [] := by
  intro r
  induction r with
  | nil => intro k _; rfl
  | cons g r ih => intro k h; rw [flat_c, selS_app, selS_ne (by omega), ih (k + 1) (by omega)]; rfl
theorem selS_flat : ∀ (r : List (List pD)) (s k : Nat), s < r.length → selS (k + s) (flat k r) = r.getD s [] := by
  intro r
  induction r with
  | nil => intro s k h; cases h
  | cons g r ih =>
    intro s k h
    cases s with
    | zero => rw [flat_c, selS_app, Nat.add_zero, selS_self, selS_flat_gt r (k + 1) (by omega), List.append_nil]; rfl
    | succ s =>
      rw [flat_c, selS_app, selS_ne (by omega), show k + (s + 1) = (k + 1) + s by omega, ih s (k + 1) (by rw [List.length_cons] at h; omega)]
      rfl
def gnD (al : Nat) (x : pD) : Bool := decide (x.2.1 = 1) || (decide (al = 1) && decide (x.2.2 = 1))
theorem sdo_sel (aK aL aT aS aX aM : Nat → Nat) (s : Nat) : ∀ n d, sdo aK aL aT aS s d n = (selS s (rws (rowOf aK aL aT aS aX aM) d n)).map (·.1) := by
  intro n
  induction n with
  | zero => intro d; rfl
  | succ n ih =>
    intro d
    rw [sdo_s, rws_s, selS_c, ih]
    by_cases h : aS d = s
    · rw [if_pos h, if_pos (show (rowOf aK aL aT aS aX aM d).2.1 = s from h)]; rfl
    · rw [if_neg h, if_neg (show ¬ (rowOf aK aL aT aS aX aM d).2.1 = s from h)]
theorem gfl_sel (aK aL aT aS aX aM : Nat → Nat) (s al : Nat) : ∀ n d, gfl aS aX aM s al d n = (selS s (rws (rowOf aK aL aT aS aX aM) d n)).map (gnD al) := by
  intro n
  induction n with
  | zero => intro d; rfl
  | succ n ih =>
    intro d
    rw [gfl_s, rws_s, selS_c, ih]
    by_cases h : aS d = s
    · rw [if_pos h, if_pos (show (rowOf aK aL aT aS aX aM d).2.1 = s from h)]; rfl
    · rw [if_neg h, if_neg (show ¬ (rowOf aK aL aT aS aX aM d).2.1 = s from h)]
theorem exi_sel (aK aL aT aS aX aM : Nat → Nat) (s : Nat) : ∀ n d, exi (fun d => decide (aS d = s) && !gn aX aM 1 d) d n = (selS s (rws (rowOf aK aL aT aS aX aM) d n)).any (fun x => !gnD 1 x) := by
  intro n
  induction n with
  | zero => intro d; rfl
  | succ n ih =>
    intro d
    rw [rws_s, selS_c, show exi (fun d => decide (aS d = s) && !gn aX aM 1 d) d (n + 1) = ((decide (aS d = s) && !gn aX aM 1 d) || exi (fun d => decide (aS d = s) && !gn aX aM 1 d) (d + 1) n) from rfl, ih]
    by_cases h : aS d = s
    · rw [if_pos (show (rowOf aK aL aT aS aX aM d).2.1 = s from h), decide_eq_true h, Bool.true_and, List.any_cons]; rfl
    · rw [if_neg (show ¬ (rowOf aK aL aT aS aX aM d).2.1 = s from h), decide_eq_false h, Bool.false_and, Bool.false_or]
theorem exi_M (aK aL aT aS aX aM : Nat → Nat) : ∀ n d, exi (fun d => decide (aM d = 1)) d n = (rws (rowOf aK aL aT aS aX aM) d n).any (fun r => decide (r.2.2.2 = 1)) := by
  intro n
  induction n with
  | zero => intro d; rfl
  | succ n ih => intro d; rw [rws_s, List.any_cons, ← ih]; rfl
/-- a segment that keeps something -/
def neS (g : List pD) : Bool := g.any (fun x => !gnD 1 x)
theorem emp_sel {aK aL aT aS aX aM : Nat → Nat} {dc s : Nat} {r : List (List pD)} (h : rws (rowOf aK aL aT aS aX aM) 0 dc = flat 0 r) (hs : s < r.length) : emp aS aX aM dc s = !neS (r.getD s []) := by
  unfold emp neS
  have := selS_flat r s 0 hs
  rw [Nat.zero_add] at this
  rw [exi_sel aK aL aT aS aX aM, h, this]
theorem sdo_flat {aK aL aT aS aX aM : Nat → Nat} {dc s : Nat} {r : List (List pD)} (h : rws (rowOf aK aL aT aS aX aM) 0 dc = flat 0 r) (hs : s < r.length) : sdo aK aL aT aS s 0 dc = (r.getD s []).map (·.1) := by
  have := selS_flat r s 0 hs
  rw [Nat.zero_add] at this
  rw [sdo_sel aK aL aT aS aX aM, h, this]
theorem gfl_flat {aK aL aT aS aX aM : Nat → Nat} {dc s al : Nat} {r : List (List pD)} (h : rws (rowOf aK aL aT aS aX aM) 0 dc = flat 0 r) (hs : s < r.length) : gfl aS aX aM s al 0 dc = (r.getD s []).map (gnD al) := by
  have := selS_flat r s 0 hs
  rw [Nat.zero_add] at this
  rw [gfl_sel aK aL aT aS aX aM, h, this]
/-- some of the rows changed -/
def mpR (f : Nat → pRow) (a b : Nat) (u : pRow → pRow) : Nat → pRow := fun j => if a ≤ j ∧ j < b then u (f j) else f j
theorem mpR_up {f : Nat → pRow} {a b : Nat} {u : pRow → pRow} (h : a ≤ b) : va_up (mpR f a b u) b (u (f b)) = mpR f a (b + 1) u := by
  funext j
  unfold va_up mpR
  by_cases h1 : j = b
  · subst h1
    rw [if_pos rfl, if_pos (by omega)]
  · rw [if_neg h1]
    by_cases h2 : a ≤ j ∧ j < b
    · rw [if_pos h2, if_pos (by omega)]
    · rw [if_neg h2, if_neg (by omega)]
theorem mpR_in {f : Nat → pRow} {u : pRow → pRow} {a b : Nat} : ∀ n d, a ≤ d → d + n ≤ b → rws (mpR f a b u) d n = (rws f d n).map u := by
  intro n
  induction n with
  | zero => intro d _ _; rfl
  | succ n ih =>
    intro d h1 h2
    rw [rws_s, rws_s, List.map_cons, ih (d + 1) (by omega) (by omega)]
    unfold mpR
    rw [if_pos (by omega)]
theorem mpR_out {f : Nat → pRow} {u : pRow → pRow} {a b d n : Nat} (h : d + n ≤ a ∨ b ≤ d) : rws (mpR f a b u) d n = rws f d n :=
  rws_congr n d (fun j h1 h2 => by unfold mpR; rw [if_neg (by omega)])
theorem flat_map (u : pD → pD) : ∀ (r : List (List pD)) (k : Nat) (v : pRow → pRow), (∀ k x, v (tag k x) = tag k (u x)) → (flat k r).map v = flat k (r.map (·.map u)) := by
  intro r
  induction r with
  | nil => intro k v _; rfl
  | cons g r ih =>
    intro k v h
    rw [flat_c, List.map_append, ih (k + 1) v h, List.map_map, List.map_cons, flat_c, List.map_map]
    congr 1
    exact List.map_congr_left (fun x _ => h k x)
theorem flat_app : ∀ (r q : List (List pD)) (k : Nat), flat k (r ++ q) = flat k r ++ flat (k + r.length) q := by
  intro r
  induction r with
  | nil => intro q k; rfl
  | cons g r ih => intro q k; rw [List.cons_append, flat_c, flat_c, ih, List.length_cons, List.append_assoc, show k + 1 + r.length = k + (r.length + 1) by omega]

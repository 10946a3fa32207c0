/-! How many bytes: bounds of packed numbers, segments and lists. -/
def vl (x : Nat) : Nat := if x < 128 then 1 else if x < 16384 then 2 else if x < 2097152 then 3 else if x < 268435456 then 4 else 5
theorem vi_vl (x : Nat) : (vi x).length = vl x := by
  unfold vi vl
  rw [vin_s]
  by_cases h1 : x < 128
  · rw [if_pos (by omega), if_pos h1]; rfl
  · rw [if_neg (by omega), if_neg h1, List.length_cons, vin_s]
    by_cases h2 : x < 16384
    · rw [if_pos (by omega), if_pos h2]; rfl
    · rw [if_neg (by omega), if_neg h2, List.length_cons, vin_s]
      by_cases h3 : x < 2097152
      · rw [if_pos (by omega), if_pos h3]; rfl
      · rw [if_neg (by omega), if_neg h3, List.length_cons, vin_s]
        by_cases h4 : x < 268435456
        · rw [if_pos (by omega), if_pos h4]; rfl
        · rw [if_neg (by omega), if_neg h4]; rfl
theorem vl_mono {x y : Nat} (h : x ≤ y) : vl x ≤ vl y := by
  unfold vl
  split <;> split <;> (try split) <;> (try split) <;> (try split) <;> (try split) <;> (try split) <;> (try split) <;> omega
theorem vl_pos (x : Nat) : 1 ≤ vl x := by
  unfold vl
  split <;> (try split) <;> (try split) <;> (try split) <;> omega
theorem vl_le (x : Nat) : vl x ≤ 5 := by
  unfold vl
  split <;> (try split) <;> (try split) <;> (try split) <;> omega
theorem vl_1 {x : Nat} (h : x < 128) : vl x = 1 := if_pos h
theorem vl_2 {x : Nat} (h : x < 16384) : vl x ≤ 2 := by
  unfold vl
  split
  · omega
  · exact Nat.le_refl _
theorem vl_add (x y : Nat) : vl (x + y) ≤ vl x + vl y := by
  have h1 := vl_pos x
  have h2 := vl_pos y
  have h3 : x + y < 128 → vl (x + y) = 1 := vl_1
  have a2 : ∀ z, 128 ≤ z → 2 ≤ vl z := fun z hz => by unfold vl; rw [if_neg (by omega)]; split <;> (try split) <;> (try split) <;> omega
  have a3 : ∀ z, 16384 ≤ z → 3 ≤ vl z := fun z hz => by unfold vl; rw [if_neg (by omega), if_neg (by omega)]; split <;> (try split) <;> omega
  have a4 : ∀ z, 2097152 ≤ z → 4 ≤ vl z := fun z hz => by unfold vl; rw [if_neg (by omega), if_neg (by omega), if_neg (by omega)]; split <;> omega
  have b2 : x + y < 16384 → vl (x + y) ≤ 2 := vl_2
  have b3 : x + y < 2097152 → vl (x + y) ≤ 3 := fun hz => by unfold vl; split <;> (try split) <;> (try split) <;> omega
  have b4 : x + y < 268435456 → vl (x + y) ≤ 4 := fun hz => by unfold vl; split <;> (try split) <;> (try split) <;> (try split) <;> omega
  have b5 := vl_le (x + y)
  by_cases c1 : x + y < 16384
  · have := b2 c1; omega
  · by_cases c2 : x + y < 2097152
    · have := b3 c2
      by_cases d1 : 8192 ≤ x
      · have := a2 x (by omega); omega
      · have := a2 y (by omega); omega
    · by_cases c3 : x + y < 268435456
      · have := b4 c3
        by_cases d1 : 1048576 ≤ x
        · have := a3 x (by omega); omega
        · have := a3 y (by omega); omega
      · by_cases d1 : 134217728 ≤ x
        · have := a4 x (by omega); omega
        · have := a4 y (by omega); omega
/-! keys -/
theorem kB_len (b : Nat) (x : pDoc) (r : List pDoc) : (kB b (x :: r)).length = vl (x.1 - b) + vl x.2.length + (kB x.1 r).length := by
  rw [kB_c, List.length_append, List.length_append, vi_vl, vi_vl]
  omega
theorem srt_mono : ∀ (D : List pDoc) (a b : Nat), a ≤ b → srt b D → srt a D := by
  intro D
  cases D with
  | nil => intro a b _ _; exact trivial
  | cons x r => intro a b h s; exact ⟨Nat.le_trans h s.1, s.2⟩
theorem kB_filter (f : pDoc → Bool) : ∀ (D : List pDoc), (∀ b, srt b D → (kB b (D.filter f)).length ≤ (kB b D).length) ∧ (∀ b c, b ≤ c → srt c D → (kB b (D.filter f)).length ≤ vl (c - b) + (kB c D).length) := by
  intro D
  induction D with
  | nil => exact ⟨fun b _ => Nat.le_refl _, fun b c _ _ => Nat.zero_le _⟩
  | cons x r ih =>
    obtain ⟨i1, i2⟩ := ih
    refine ⟨fun b s => ?_, fun b c hbc s => ?_⟩
    · rw [List.filter_cons, kB_len]
      split
      · rw [kB_len]
        have := i1 x.1 s.2
        omega
      · have := i2 b x.1 s.1 s.2
        omega
    · have hcx : c ≤ x.1 := s.1
      have e1 : x.1 - b = (x.1 - c) + (c - b) := by omega
      have e2 := vl_add (x.1 - c) (c - b)
      rw [← e1] at e2
      rw [List.filter_cons, kB_len]
      split
      · rw [kB_len]
        have := i1 x.1 s.2
        omega
      · have := i2 b x.1 (by omega) s.2
        omega
theorem kB_app (B : List pDoc) : ∀ (A : List pDoc) (b : Nat), (kB b (A ++ B)).length ≤ (kB b A).length + (kB 0 B).length := by
  intro A
  induction A with
  | nil =>
    intro b
    show (kB b B).length ≤ 0 + _
    cases B with
    | nil => exact Nat.zero_le _
    | cons y r =>
      rw [kB_len, kB_len]
      have := vl_mono (show y.1 - b ≤ y.1 - 0 by omega)
      omega
  | cons x r ih =>
    intro b
    rw [List.cons_append, kB_len, kB_len]
    have := ih x.1
    omega
theorem kB_low : ∀ (D : List pDoc) (b : Nat), 2 * D.length ≤ (kB b D).length := by
  intro D
  induction D with
  | nil => intro b; exact Nat.zero_le _
  | cons x r ih =>
    intro b
    rw [kB_len, List.length_cons]
    have := ih x.1
    have := vl_pos (x.1 - b)
    have := vl_pos x.2.length
    omega
theorem kB_up : ∀ (D : List pDoc) (b : Nat), (∀ y ∈ D, y.2.length ≤ 8) → (kB b D).length ≤ 6 * D.length := by
  intro D
  induction D with
  | nil => intro b _; exact Nat.zero_le _
  | cons x r ih =>
    intro b h
    rw [kB_len, List.length_cons]
    have := ih x.1 (fun y hy => h y (List.mem_cons_of_mem _ hy))
    have := vl_le (x.1 - b)
    have := vl_1 (show x.2.length < 128 by have := h x (List.mem_cons_self ..); omega)
    omega
/-! postings: k for each document that has the term, and its places -/
def wT (k t : Nat) (x : pDoc) : Nat := if 0 < tm t x.2 then k + tm t x.2 else 0
def wD (k t : Nat) : List pDoc → Nat
  | [] => 0
  | x :: r => wT k t x + wD k t r
theorem wD_c (k t : Nat) (x : pDoc) (r : List pDoc) : wD k t (x :: r) = wT k t x + wD k t r := rfl
def wS (k : Nat) (D : List pDoc) : Nat → Nat → Nat
  | _, 0 => 0
  | t, n + 1 => wD k t D + wS k D (t + 1) n
theorem wS_s (k : Nat) (D : List pDoc) (t n : Nat) : wS k D t (n + 1) = wD k t D + wS k D (t + 1) n := rfl
theorem plB_len1 (t : Nat) : ∀ ts p l, p + ts.length ≤ 100 → (plB t p l ts).length = tm t ts := by
  intro ts
  induction ts with
  | nil => intro p l _; rfl
  | cons x r ih =>
    intro p l h
    rw [List.length_cons] at h
    unfold plB tm
    split
    · rw [List.length_append, ih _ _ (by omega), vi_vl, vl_1 (by omega)]
    · rw [ih _ _ (by omega), Nat.zero_add]
theorem poB_low (t : Nat) : ∀ (D : List pDoc) (o b : Nat), (∀ y ∈ D, y.2.length ≤ 8) → wD 2 t D ≤ (poB t o b D).length := by
  intro D
  induction D with
  | nil => intro o b _; exact Nat.zero_le _
  | cons x r ih =>
    intro o b h
    have hx := h x (List.mem_cons_self ..)
    have hr := fun y hy => h y (List.mem_cons_of_mem _ hy)
    rw [poB_c, wD_c]
    unfold wT
    split
    · rw [List.length_append, List.length_append, List.length_append, plB_len1 t x.2 0 0 (by omega), vi_vl, vi_vl]
      have := ih (o + 1) o hr
      have := vl_pos (o - b)
      have := vl_pos (tm t x.2)
      omega
    · have := ih (o + 1) b hr
      omega
theorem poB_up (t : Nat) : ∀ (D : List pDoc) (o b : Nat), o + D.length < 16384 → (∀ y ∈ D, y.2.length ≤ 8) → (poB t o b D).length ≤ wD 3 t D := by
  intro D
  induction D with
  | nil => intro o b _ _; exact Nat.le_refl _
  | cons x r ih =>
    intro o b ho h
    have hx := h x (List.mem_cons_self ..)
    have hr := fun y hy => h y (List.mem_cons_of_mem _ hy)
    rw [List.length_cons] at ho
    rw [poB_c, wD_c]
    unfold wT
    split
    · rw [List.length_append, List.length_append, List.length_append, plB_len1 t x.2 0 0 (by omega), vi_vl, vi_vl]
      have := ih (o + 1) o (by omega) hr
      have := vl_2 (show o - b < 16384 by omega)
      have := tm_le t x.2
      have := vl_1 (show tm t x.2 < 128 by omega)
      omega
    · have := ih (o + 1) b (by omega) hr
      omega
theorem hav_wD (t : Nat) : ∀ D : List pDoc, hav t D = 0 → wD 2 t D = 0 := by
  intro D
  induction D with
  | nil => intro _; rfl
  | cons x r ih =>
    intro h
    rw [hav_c] at h
    rw [wD_c]
    unfold wT
    split
    · next q => rw [if_pos q] at h; omega
    · rw [ih (by omega)]
theorem tsB_low (D : List pDoc) (h : ∀ y ∈ D, y.2.length ≤ 8) : ∀ n t, wS 2 D t n ≤ (tsB D t n).length := by
  intro n
  induction n with
  | zero => intro t; exact Nat.le_refl _
  | succ n ih =>
    intro t
    rw [tsB_s, wS_s, List.length_append]
    have := ih (t + 1)
    have h2 : wD 2 t D ≤ (tB t D).length := by
      unfold tB
      split
      · next q => rw [hav_wD t D q]; exact Nat.zero_le _
      · rw [List.length_append, List.length_append]
        have := poB_low t D 0 0 h
        omega
    omega
theorem tsB_up (D : List pDoc) (hn : D.length < 16384) (h : ∀ y ∈ D, y.2.length ≤ 8) : ∀ n t, t + n ≤ 16 → (tsB D t n).length ≤ 3 * n + wS 3 D t n := by
  intro n
  induction n with
  | zero => intro t _; exact Nat.le_refl _
  | succ n ih =>
    intro t ht
    rw [tsB_s, wS_s, List.length_append]
    have := ih (t + 1) (by omega)
    have h2 : (tB t D).length ≤ 3 + wD 3 t D := by
      unfold tB
      split
      · exact Nat.zero_le _
      · rw [List.length_append, List.length_append, vi_vl, vi_vl, vl_1 (by omega)]
        have := poB_up t D 0 0 (by omega) h
        have := hav_le t D
        have := vl_2 (show hav t D < 16384 by omega)
        omega
    omega
/-! sums by documents -/
theorem wD_app (k t : Nat) (B : List pDoc) : ∀ A : List pDoc, wD k t (A ++ B) = wD k t A + wD k t B := by
  intro A
  induction A with
  | nil => exact (Nat.zero_add _).symm
  | cons x r ih => rw [List.cons_append, wD_c, wD_c, ih]; omega
theorem wS_app (k : Nat) (A B : List pDoc) : ∀ n t, wS k (A ++ B) t n = wS k A t n + wS k B t n := by
  intro n
  induction n with
  | zero => intro t; rfl
  | succ n ih => intro t; rw [wS_s, wS_s, wS_s, wD_app, ih]; omega
theorem wD_filter (k t : Nat) (f : pDoc → Bool) : ∀ A : List pDoc, wD k t (A.filter f) ≤ wD k t A := by
  intro A
  induction A with
  | nil => exact Nat.le_refl _
  | cons x r ih =>
    rw [List.filter_cons, wD_c]
    split
    · rw [wD_c]; omega
    · omega
theorem wS_filter (k : Nat) (f : pDoc → Bool) (A : List pDoc) : ∀ n t, wS k (A.filter f) t n ≤ wS k A t n := by
  intro n
  induction n with
  | zero => intro t; exact Nat.le_refl _
  | succ n ih =>
    intro t
    rw [wS_s, wS_s]
    have := wD_filter k t f A
    have := ih (t + 1)
    omega
theorem wD_32 (t : Nat) : ∀ A : List pDoc, 3 * wD 3 t A ≤ 4 * wD 2 t A := by
  intro A
  induction A with
  | nil => exact Nat.le_refl _
  | cons x r ih =>
    rw [wD_c, wD_c]
    unfold wT
    split <;> omega
theorem wS_32 (A : List pDoc) : ∀ n t, 3 * wS 3 A t n ≤ 4 * wS 2 A t n := by
  intro n
  induction n with
  | zero => intro t; exact Nat.le_refl _
  | succ n ih =>
    intro t
    rw [wS_s, wS_s]
    have := wD_32 t A
    have := ih (t + 1)
    omega
theorem tm_pos {t : Nat} : ∀ l : List Nat, t ∈ l → 0 < tm t l := by
  intro l
  induction l with
  | nil => intro h; cases h
  | cons x r ih =>
    intro h
    unfold tm
    rcases List.mem_cons.mp h with rfl | h
    · rw [if_pos rfl]; omega
    · have := ih h; omega
theorem wS_one (x : pDoc) (t0 : Nat) (h : 0 < tm t0 x.2) : ∀ n t, t ≤ t0 → t0 < t + n → 3 ≤ wS 2 [x] t n := by
  intro n
  induction n with
  | zero => intro t h1 h2; omega
  | succ n ih =>
    intro t h1 h2
    rw [wS_s]
    by_cases q : t = t0
    · subst q
      have : 3 ≤ wD 2 t [x] := by
        rw [wD_c]
        unfold wT
        rw [if_pos h]
        omega
      omega
    · have := ih (t + 1) (by omega) (by omega)
      omega
theorem wS_low : ∀ D : List pDoc, (∀ y ∈ D, 1 ≤ y.2.length ∧ ∀ t ∈ y.2, t < 16) → 3 * D.length ≤ wS 2 D 0 16 := by
  intro D
  induction D with
  | nil => intro _; exact Nat.zero_le _
  | cons x r ih =>
    intro h
    rw [show x :: r = [x] ++ r from rfl, wS_app, List.length_append]
    have h1 := ih (fun y hy => h y (List.mem_cons_of_mem _ hy))
    obtain ⟨h2, h3⟩ := h x (List.mem_cons_self ..)
    have h4 : 3 ≤ wS 2 [x] 0 16 := by
      cases hx : x.2 with
      | nil => rw [hx] at h2; exact absurd h2 (by decide)
      | cons t0 l =>
        have ht : t0 ∈ x.2 := by rw [hx]; exact List.mem_cons_self ..
        exact wS_one x t0 (tm_pos _ ht) 16 0 (Nat.zero_le _) (by have := h3 t0 ht; omega)
    show 3 * (1 + r.length) ≤ _
    omega
theorem sB_len (D : List pDoc) : (sB D).length = vl D.length + (kB 0 D).length + (tsB D 0 16).length := by
  unfold sB
  rw [List.length_append, List.length_append, vi_vl]
  omega
/-- every document takes five bytes -/
theorem sB_low (D : List pDoc) (h : ∀ y ∈ D, 1 ≤ y.2.length ∧ y.2.length ≤ 8 ∧ ∀ t ∈ y.2, t < 16) : 5 * D.length + 1 ≤ (sB D).length := by
  rw [sB_len]
  have := vl_pos D.length
  have := kB_low D 0
  have := tsB_low D (fun y hy => (h y hy).2.1) 16 0
  have := wS_low D (fun y hy => ⟨(h y hy).1, (h y hy).2.2⟩)
  omega

/-! What stays true of the segments sg and the buffer bq between calls, and what follows. -/
theorem tmS_le (l : List Nat) : ∀ n t k, k * n ≤ k * n → (wS 3 [(k, l)] t n ≤ 4 * sumN (fun t => tm t l) t n) := by
  intro n
  induction n with
  | zero => intro t k _; exact Nat.le_refl _
  | succ n ih =>
    intro t k _
    rw [wS_s]
    have h1 := ih (t + 1) k (Nat.le_refl _)
    have h2 : wD 3 t [(k, l)] ≤ 4 * tm t l := by
      rw [wD_c]
      unfold wT
      show (if 0 < tm t l then 3 + tm t l else 0) + 0 ≤ _
      split <;> omega
    show _ ≤ 4 * (tm t l + sumN (fun t => tm t l) (t + 1) n)
    omega
theorem sum_eq1 (x : Nat) : ∀ n t, sumN (fun t => if x = t then 1 else 0) t n ≤ 1 ∧ (x < t → sumN (fun t => if x = t then 1 else 0) t n = 0) := by
  intro n
  induction n with
  | zero => intro t; exact ⟨Nat.zero_le _, fun _ => rfl⟩
  | succ n ih =>
    intro t
    obtain ⟨i1, i2⟩ := ih (t + 1)
    show (if x = t then 1 else 0) + sumN (fun t => if x = t then 1 else 0) (t + 1) n ≤ 1 ∧ (x < t → (if x = t then 1 else 0) + sumN (fun t => if x = t then 1 else 0) (t + 1) n = 0)
    by_cases q : x = t
    · rw [if_pos q, i2 (by omega)]
      exact ⟨Nat.le_refl _, fun h => by omega⟩
    · rw [if_neg q]
      exact ⟨by omega, fun h => by rw [i2 (by omega)]⟩
theorem sumN_add (f g : Nat → Nat) : ∀ n t, sumN (fun t => f t + g t) t n = sumN f t n + sumN g t n := by
  intro n
  induction n with
  | zero => intro t; rfl
  | succ n ih =>
    intro t
    show f t + g t + sumN (fun t => f t + g t) (t + 1) n = f t + sumN f (t + 1) n + (g t + sumN g (t + 1) n)
    rw [ih]
    omega
theorem tm_sum : ∀ (l : List Nat) (t n : Nat), sumN (fun t => tm t l) t n ≤ l.length := by
  intro l
  induction l with
  | nil =>
    intro t n
    induction n generalizing t with
    | zero => exact Nat.le_refl _
    | succ n ih => show 0 + sumN (fun t => tm t []) (t + 1) n ≤ _; have := ih (t + 1); omega
  | cons x r ih =>
    intro t n
    show sumN (fun t => (if x = t then 1 else 0) + tm t r) t n ≤ _
    rw [sumN_add, List.length_cons]
    have := ih t n
    have := (sum_eq1 x n t).1
    omega
theorem wS_len : ∀ D : List pDoc, (∀ y ∈ D, y.2.length ≤ 8) → wS 3 D 0 16 ≤ 32 * D.length := by
  intro D
  induction D with
  | nil => intro _; exact Nat.le_refl _
  | cons x r ih =>
    intro h
    rw [show x :: r = [x] ++ r from rfl, wS_app, List.length_append]
    have h1 := ih (fun y hy => h y (List.mem_cons_of_mem _ hy))
    have h2 := tmS_le x.2 16 0 x.1 (Nat.le_refl _)
    have h3 := tm_sum x.2 0 16
    have h4 := h x (List.mem_cons_self ..)
    show _ ≤ 32 * (1 + r.length)
    have h5 : wS 3 [x] 0 16 ≤ 32 := by
      have : wS 3 [x] 0 16 = wS 3 [(x.1, x.2)] 0 16 := rfl
      omega
    omega
theorem sB_up12 (D : List pDoc) (hn : D.length ≤ 12) (h : ∀ y ∈ D, y.2.length ≤ 8) : (sB D).length ≤ 1400 := by
  rw [sB_len]
  have := vl_1 (show D.length < 128 by omega)
  have := kB_up D 0 h
  have := tsB_up D (by omega) h 16 0 (by omega)
  have := wS_len D h
  omega
/-- merged: the documents of some segments, without some of them -/
theorem sB_mrg (f : pDoc → Bool) (Ds : List (List pDoc)) (h : ∀ D ∈ Ds, ∀ y ∈ D, y.2.length ≤ 8) (hs : srt 0 Ds.flatten) (hn : Ds.flatten.length < 16384) (hb : (Ds.map (fun D => (sB D).length)).sum ≤ 800) : (sB (Ds.flatten.filter f)).length ≤ 1400 := by
  have k1 : (kB 0 (Ds.flatten.filter f)).length ≤ (kB 0 Ds.flatten).length := (kB_filter f _).1 0 hs
  have k2 : ∀ Es : List (List pDoc), (∀ D ∈ Es, ∀ y ∈ D, y.2.length ≤ 8) → (kB 0 Es.flatten).length + wS 2 Es.flatten 0 16 ≤ (Es.map (fun D => (sB D).length)).sum := by
    intro Es
    induction Es with
    | nil => intro _; exact Nat.le_refl _
    | cons D Es ih =>
      intro hE
      rw [List.flatten_cons, List.map_cons, List.sum_cons, wS_app, sB_len]
      have := ih (fun E hE' => hE E (List.mem_cons_of_mem _ hE'))
      have := kB_app Es.flatten D 0
      have := tsB_low D (hE D (List.mem_cons_self ..)) 16 0
      omega
  have k3 := k2 Ds h
  have h8 : ∀ y ∈ Ds.flatten, y.2.length ≤ 8 := fun y hy => by
    obtain ⟨D, hD, hy⟩ := List.mem_flatten.mp hy
    exact h D hD y hy
  have hfl : (Ds.flatten.filter f).length ≤ Ds.flatten.length := List.length_filter_le _ _
  have k4 := tsB_up (Ds.flatten.filter f) (by omega) (fun y hy => h8 y (List.mem_filter.mp hy).1) 16 0 (by omega)
  have k5 := wS_filter 3 f Ds.flatten 16 0
  have k6 := wS_32 Ds.flatten 16 0
  rw [sB_len]
  have := vl_2 (show (Ds.flatten.filter f).length < 16384 by omega)
  omega
theorem dB_up : ∀ (gs : List Bool) (o b : Nat), o + gs.length < 16384 → (dB o b gs).length ≤ 2 * gs.length := by
  intro gs
  induction gs with
  | nil => intro o b _; exact Nat.le_refl _
  | cons g r ih =>
    intro o b h
    rw [List.length_cons] at h
    rw [dB_c, List.length_cons]
    split
    · rw [List.length_append, vi_vl]
      have := ih (o + 1) o (by omega)
      have := vl_2 (show o - b < 16384 by omega)
      omega
    · have := ih (o + 1) b (by omega)
      omega
theorem gc_le : ∀ gs : List Bool, gc gs ≤ gs.length := by
  intro gs
  induction gs with
  | nil => exact Nat.le_refl _
  | cons g r ih =>
    rw [gc_c, List.length_cons]
    have := bN_le g
    omega
theorem lG_up (al : Nat) (sg : List pG) (h1 : sg.length ≤ 12) (h2 : ∀ g ∈ sg, g.1 < 16384) (h3 : (sg.flatMap (·.2)).length ≤ 200) : (lG al sg).length ≤ 1400 := by
  have k : ∀ E : List pG, (∀ g ∈ E, g.1 < 16384) → (E.flatMap (·.2)).length ≤ 200 → (E.flatMap (eG al)).length ≤ 4 * E.length + 2 * (E.flatMap (·.2)).length := by
    intro E
    induction E with
    | nil => intro _ _; exact Nat.le_refl _
    | cons g E ih =>
      intro h2 h3
      rw [List.flatMap_cons, List.length_append] at h3
      rw [List.flatMap_cons, List.flatMap_cons, List.length_append, List.length_append, List.length_cons]
      have i1 := ih (fun x hx => h2 x (List.mem_cons_of_mem _ hx)) (by omega)
      have i2 : (eG al g).length ≤ 4 + 2 * g.2.length := by
        unfold eG eB
        rw [List.length_append, List.length_append, vi_vl, vi_vl]
        have a1 := vl_2 (h2 g (List.mem_cons_self ..))
        have a2 := gc_le (g.2.map (gnD al))
        rw [List.length_map] at a2
        have a3 := vl_2 (show gc (g.2.map (gnD al)) < 16384 by omega)
        have a4 := dB_up (g.2.map (gnD al)) 0 0 (by rw [List.length_map]; omega)
        rw [List.length_map] at a4
        omega
      omega
  unfold lG
  rw [List.length_append, vi_vl, vl_1 (by omega)]
  have := k sg h2 h3
  omega
def inv (li room : Nat) (sg : List pG) (bq : List pD) : Prop :=
  (bq.length ≤ 12 ∧ sg.length ≤ 10) ∧ (∀ y ∈ bq, y.2 = (0, 0)) ∧ (sg.flatMap (·.2) ++ bq).Pairwise (fun y z => y.1.1 < z.1.1) ∧
  (∀ y ∈ sg.flatMap (·.2) ++ bq, y.1.1 < 2147483648 ∧ 1 ≤ y.1.2.length ∧ y.1.2.length ≤ 8 ∧ ∀ t ∈ y.1.2, t < 16) ∧
  (∀ g ∈ sg, ∃ y ∈ g.2, y.2.1 = 0) ∧ (∀ y ∈ sg.flatMap (·.2), (y.2.1 = 0 ∧ y.2.2 ≤ 1) ∨ y.2 = (1, 0)) ∧ uG li sg ≤ room ∧ (li = 0 → sg = []) ∧ li ≤ 1 ∧ room ≤ 800
theorem pw_srt : ∀ (l : List pD) (b : Nat), l.Pairwise (fun y z => y.1.1 < z.1.1) → (∀ y ∈ l, b ≤ y.1.1) → srt b (l.map (·.1)) := by
  intro l
  induction l with
  | nil => intro b _ _; exact trivial
  | cons x r ih =>
    intro b h1 h2
    obtain ⟨h3, h4⟩ := List.pairwise_cons.mp h1
    exact ⟨h2 x (List.mem_cons_self ..), ih x.1.1 h4 (fun y hy => Nat.le_of_lt (h3 y hy))⟩
section INV
variable {li room : Nat} {sg : List pG} {bq : List pD}
theorem inv_sum (I : inv li room sg bq) : (sg.map (fun g => (bG g).length)).sum ≤ room := by
  obtain ⟨_, _, _, _, _, _, h, _⟩ := I
  unfold uG at h
  omega
theorem inv_docs (I : inv li room sg bq) : 5 * (sg.flatMap (·.2)).length + sg.length ≤ room := by
  have h1 := inv_sum I
  obtain ⟨_, _, _, hd, _⟩ := I
  have k : ∀ E : List pG, (∀ y ∈ E.flatMap (·.2), y ∈ sg.flatMap (·.2)) → 5 * (E.flatMap (·.2)).length + E.length ≤ (E.map (fun g => (bG g).length)).sum := by
    intro E
    induction E with
    | nil => intro _; exact Nat.le_refl _
    | cons g E ih =>
      intro hE
      rw [List.flatMap_cons, List.length_append, List.map_cons, List.sum_cons, List.length_cons]
      have i1 := ih (fun y hy => hE y (by rw [List.flatMap_cons]; exact List.mem_append_right _ hy))
      have i2 : 5 * g.2.length + 1 ≤ (bG g).length := by
        unfold bG
        have := sB_low (g.2.map (·.1)) (fun y hy => by
          obtain ⟨z, hz, rfl⟩ := List.mem_map.mp hy
          exact (hd z (List.mem_append_left _ (hE z (by rw [List.flatMap_cons]; exact List.mem_append_left _ hz)))).2)
        rw [List.length_map] at this
        exact this
      omega
  have := k sg (fun y hy => hy)
  omega
theorem inv_seg (I : inv li room sg bq) : ∀ g ∈ sg, srt 0 (g.2.map (·.1)) ∧ (bG g).length ≤ 800 := by
  intro g hg
  have h1 := inv_sum I
  obtain ⟨_, _, hp, _, _, _, _, _, _, hr⟩ := I
  obtain ⟨L, R, rfl⟩ := List.append_of_mem hg
  refine ⟨pw_srt _ 0 ?_ (fun y _ => Nat.zero_le _), ?_⟩
  · rw [List.flatMap_append, List.flatMap_cons] at hp
    exact (List.pairwise_append.mp (List.pairwise_append.mp (List.pairwise_append.mp hp).1).2.1).1
  · rw [List.map_append, List.sum_append, List.map_cons, List.sum_cons] at h1
    omega
theorem inv_buf (I : inv li room sg bq) : srt 0 (bq.map (·.1)) ∧ (sB (bq.map (·.1))).length ≤ 1400 := by
  obtain ⟨⟨h1, _⟩, _, hp, hd, _⟩ := I
  refine ⟨pw_srt _ 0 (List.pairwise_append.mp hp).2.1 (fun y _ => Nat.zero_le _), sB_up12 _ (by rw [List.length_map]; exact h1) (fun y hy => ?_)⟩
  obtain ⟨z, hz, rfl⟩ := List.mem_map.mp hy
  exact (hd z (List.mem_append_right _ hz)).2.2.1
theorem inv_mrg {L M R : List pG} (I : inv li room sg bq) (hs : sg = L ++ (M ++ R)) : srt 0 ((mrg M).map (·.1)) ∧ (sB ((mrg M).map (·.1))).length ≤ 1400 ∧ (M.flatMap (·.2)).length ≤ 160 := by
  have h1 := inv_sum I
  have h2 := inv_docs I
  obtain ⟨_, _, hp, hd, _, _, _, _, _, hr⟩ := I
  subst hs
  have hpm : (M.flatMap (·.2)).Pairwise (fun y z => y.1.1 < z.1.1) := by
    rw [List.flatMap_append, List.flatMap_append] at hp
    exact (List.pairwise_append.mp (List.pairwise_append.mp (List.pairwise_append.mp hp).1).2.1).1
  rw [List.flatMap_append, List.flatMap_append, List.length_append, List.length_append] at h2
  rw [List.map_append, List.map_append, List.sum_append, List.sum_append] at h1
  have hlen : (M.flatMap (·.2)).length ≤ 160 := by omega
  refine ⟨?_, ?_, hlen⟩
  · unfold mrg
    exact pw_srt _ 0 (hpm.sublist List.filter_sublist) (fun y _ => Nat.zero_le _)
  · have e1 : ∀ E : List pG, ((E.map (fun g => g.2.map (·.1))).flatten) = (E.flatMap (·.2)).map (·.1) := by
      intro E
      induction E with
      | nil => rfl
      | cons g E ih => rw [List.map_cons, List.flatten_cons, List.flatMap_cons, List.map_append, ih]
    have hm8 : ∀ y ∈ M.flatMap (·.2), y.1.2.length ≤ 8 := fun y hy => (hd y (List.mem_append_left _ (by rw [List.flatMap_append, List.flatMap_append]; exact List.mem_append_right _ (List.mem_append_left _ hy)))).2.2.1
    have hsr : srt 0 ((M.map (fun g => g.2.map (·.1))).flatten) := by
      rw [e1]
      exact pw_srt _ 0 hpm (fun y _ => Nat.zero_le _)
    have hbs : ((M.map (fun g => g.2.map (·.1))).map (fun D => (sB D).length)).sum ≤ 800 := by
      rw [List.map_map]
      show (M.map (fun g => (bG g).length)).sum ≤ 800
      omega
    have h8 : ∀ D ∈ M.map (fun g => g.2.map (·.1)), ∀ y ∈ D, y.2.length ≤ 8 := by
      intro D hD y hy
      obtain ⟨g, hg, rfl⟩ := List.mem_map.mp hD
      obtain ⟨z, hz, rfl⟩ := List.mem_map.mp hy
      exact hm8 z (List.mem_flatMap.mpr ⟨g, hg, hz⟩)
    have fin : ∃ f : pDoc → Bool, (mrg M).map (·.1) = ((M.flatMap (·.2)).map (·.1)).filter f := by
      refine ⟨fun d => decide (∃ y ∈ mrg M, y.1 = d), ?_⟩
      unfold mrg
      have key : ∀ l : List pD, l.Pairwise (fun y z => y.1.1 < z.1.1) → ∀ S : List pD, (∀ y ∈ l, y ∈ S ↔ (!decide (y.2.1 = 1)) = true) → (∀ y ∈ S, ∀ z ∈ l, y.1 = z.1 → y = z) → (l.filter (fun x => !decide (x.2.1 = 1))).map (·.1) = (l.map (·.1)).filter (fun d => decide (∃ y ∈ S, y.1 = d)) := by
        intro l
        induction l with
        | nil => intro _ S _ _; rfl
        | cons x r ih =>
          intro hpw S hS hinj
          have ih' := ih (List.pairwise_cons.mp hpw).2 S (fun y hy => hS y (List.mem_cons_of_mem _ hy)) (fun y hy z hz => hinj y hy z (List.mem_cons_of_mem _ hz))
          rw [List.filter_cons, List.map_cons, List.filter_cons]
          by_cases q : (!decide (x.2.1 = 1)) = true
          · rw [if_pos q, if_pos (decide_eq_true ⟨x, (hS x (List.mem_cons_self ..)).mpr q, rfl⟩), List.map_cons, ih']
          · rw [if_neg q, if_neg (fun e => ?_), ih']
            obtain ⟨y, hy, hyx⟩ := of_decide_eq_true e
            have := hinj y hy x (List.mem_cons_self ..) hyx
            subst this
            exact q ((hS y (List.mem_cons_self ..)).mp hy)
      refine key _ hpm _ (fun y hy => ?_) (fun y hy z hz e => ?_)
      · rw [List.mem_filter]
        exact ⟨fun e => e.2, fun e => ⟨hy, e⟩⟩
      · have hy' := (List.mem_filter.mp hy).1
        by_cases q : y = z
        · exact q
        · exfalso
          have hne : ∀ l : List pD, l.Pairwise (fun y z => y.1.1 < z.1.1) → y ∈ l → z ∈ l → y = z := by
            intro l
            induction l with
            | nil => intro _ h; cases h
            | cons a r ih =>
              intro hp h1 h2
              obtain ⟨p1, p2⟩ := List.pairwise_cons.mp hp
              rcases List.mem_cons.mp h1 with q1 | q1
              · rcases List.mem_cons.mp h2 with q2 | q2
                · exact q1.trans q2.symm
                · have := p1 z q2; rw [← q1, e] at this; omega
              · rcases List.mem_cons.mp h2 with q2 | q2
                · have := p1 y q1; rw [← q2, e] at this; omega
                · exact ih p2 q1 q2
          exact q (hne _ hpm hy' hz)
    obtain ⟨f, hf⟩ := fin
    rw [hf, ← e1]
    exact sB_mrg f _ h8 hsr (by rw [e1, List.length_map]; omega) hbs
end INV

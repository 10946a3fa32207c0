/-! The law: behind the two calls of a case, up to the end of the turn. -/
theorem lg_self (v : Int64) : lg_cmp v v = Int32.ofNat 0 := by
  unfold lg_cmp
  rw [if_neg Int64.lt_irrefl, if_pos rfl]
  rfl
section LTL
variable {h0 : pm_S} {m r0 tw df dc bf cn nn li sz pl : Nat} {P : Int32} {aD aK aL aT aS aX aM aC aN aO aQ aB aV aH : Nat → Nat} {G : pm_G} {Q : pm_Q} {b x ou i cd d : Nat} {w : Int32}
theorem tl_161 (hd : 1 ≤ d) (htw : tw = cd) (hcd : cd < 4) (hg : G.1 ≤ ou) (ho : cd = 0 → ∃ g, ((rf h0 m r0 tw df dc bf cn nn li P sz pl aD aK aL aT aS aX aM aC aN aO aQ aB aV aH)).1 ou = some (pm_l 1 g) ∧ g 0 = w.toInt64) (K : ps_X G d 140 836 [some (.ref b), some (.ref x), some (.ref m), some (.ref ou), some (iN i), some (iN cd), some (.int w)] [] (rf h0 m r0 tw df dc bf cn nn li P sz pl aD aK aL aT aS aX aM aC aN aO aQ aB aV aH) Q) : ps_X G d 140 161 [some (.ref b), some (.ref x), some (.ref m), some (.ref ou), some (iN i), some (iN cd), some (.int w)] [] (rf h0 m r0 tw df dc bf cn nn li P sz pl aD aK aL aT aS aX aM aC aN aO aQ aB aV aH) Q := by
  subst htw
  first | refine ps_s_al p140_161 rfl ?_ | refine ps_s_aln p140_161 rfl ?_
  refine ps_s_vV [] _ p140_162 rfl rf_o rfl rfl rfl (rf_thrown (ps_bki ?_) d (by omega))
  refine ps_s_il p140_165 rfl ?_
  refine ps_s_eq p140_167 (by omega) (by omega) (fun c167 => ?_) (fun c167 => ?_)
  · refine ps_s_il p140_172 rfl ?_
    refine ps_s_ne0 p140_174 (by omega) (fun c174 => ?_) (fun c174 => ?_)
    · refine ps_s_go p140_189 ?_
      exact K
    · obtain ⟨g, g1, g2⟩ := ho (by omega)
      first | refine ps_s_al p140_177 rfl ?_ | refine ps_s_aln p140_177 rfl ?_
      refine ps_s_k p140_178 ?_
      refine ps_s_la p140_179 g1 hg (by omega) (by omega) ?_
      rw [g2]
      refine ps_s_il p140_180 rfl ?_
      refine ps_s_i2l p140_182 ?_
      refine ps_s_lcmp p140_183 ?_
      rw [lg_self]
      refine ps_s_eq0 p140_184 (by omega) (fun c184 => ?_) (fun c184 => ?_)
      · refine ps_s_go p140_189 ?_
        exact K
      · exact absurd rfl c184
  · exact absurd rfl c167
theorem tl_217 (hd : 1 ≤ d) (htw : tw = cd) (hcd : cd < 4) (hg : G.1 ≤ ou) (ho : cd = 0 → ∃ g, ((rf h0 m r0 tw df dc bf cn nn li P sz pl aD aK aL aT aS aX aM aC aN aO aQ aB aV aH)).1 ou = some (pm_l 1 g) ∧ g 0 = w.toInt64) (K : ps_X G d 140 836 [some (.ref b), some (.ref x), some (.ref m), some (.ref ou), some (iN i), some (iN cd), some (.int w)] [] (rf h0 m r0 tw df dc bf cn nn li P sz pl aD aK aL aT aS aX aM aC aN aO aQ aB aV aH) Q) : ps_X G d 140 217 [some (.ref b), some (.ref x), some (.ref m), some (.ref ou), some (iN i), some (iN cd), some (.int w)] [] (rf h0 m r0 tw df dc bf cn nn li P sz pl aD aK aL aT aS aX aM aC aN aO aQ aB aV aH) Q := by
  subst htw
  first | refine ps_s_al p140_217 rfl ?_ | refine ps_s_aln p140_217 rfl ?_
  refine ps_s_vV [] _ p140_218 rfl rf_o rfl rfl rfl (rf_thrown (ps_bki ?_) d (by omega))
  refine ps_s_il p140_221 rfl ?_
  refine ps_s_eq p140_223 (by omega) (by omega) (fun c223 => ?_) (fun c223 => ?_)
  · refine ps_s_il p140_228 rfl ?_
    refine ps_s_ne0 p140_230 (by omega) (fun c230 => ?_) (fun c230 => ?_)
    · refine ps_s_go p140_245 ?_
      exact K
    · obtain ⟨g, g1, g2⟩ := ho (by omega)
      first | refine ps_s_al p140_233 rfl ?_ | refine ps_s_aln p140_233 rfl ?_
      refine ps_s_k p140_234 ?_
      refine ps_s_la p140_235 g1 hg (by omega) (by omega) ?_
      rw [g2]
      refine ps_s_il p140_236 rfl ?_
      refine ps_s_i2l p140_238 ?_
      refine ps_s_lcmp p140_239 ?_
      rw [lg_self]
      refine ps_s_eq0 p140_240 (by omega) (fun c240 => ?_) (fun c240 => ?_)
      · refine ps_s_go p140_245 ?_
        exact K
      · exact absurd rfl c240
  · exact absurd rfl c223
theorem tl_286 (hd : 1 ≤ d) (htw : tw = cd) (hcd : cd < 4) (hg : G.1 ≤ ou) (ho : cd = 0 → ∃ g, ((rf h0 m r0 tw df dc bf cn nn li P sz pl aD aK aL aT aS aX aM aC aN aO aQ aB aV aH)).1 ou = some (pm_l 1 g) ∧ g 0 = w.toInt64) (K : ps_X G d 140 836 [some (.ref b), some (.ref x), some (.ref m), some (.ref ou), some (iN i), some (iN cd), some (.int w)] [] (rf h0 m r0 tw df dc bf cn nn li P sz pl aD aK aL aT aS aX aM aC aN aO aQ aB aV aH) Q) : ps_X G d 140 286 [some (.ref b), some (.ref x), some (.ref m), some (.ref ou), some (iN i), some (iN cd), some (.int w)] [] (rf h0 m r0 tw df dc bf cn nn li P sz pl aD aK aL aT aS aX aM aC aN aO aQ aB aV aH) Q := by
  subst htw
  first | refine ps_s_al p140_286 rfl ?_ | refine ps_s_aln p140_286 rfl ?_
  refine ps_s_vV [] _ p140_287 rfl rf_o rfl rfl rfl (rf_thrown (ps_bki ?_) d (by omega))
  refine ps_s_il p140_290 rfl ?_
  refine ps_s_eq p140_292 (by omega) (by omega) (fun c292 => ?_) (fun c292 => ?_)
  · refine ps_s_il p140_297 rfl ?_
    refine ps_s_ne0 p140_299 (by omega) (fun c299 => ?_) (fun c299 => ?_)
    · refine ps_s_go p140_314 ?_
      exact K
    · obtain ⟨g, g1, g2⟩ := ho (by omega)
      first | refine ps_s_al p140_302 rfl ?_ | refine ps_s_aln p140_302 rfl ?_
      refine ps_s_k p140_303 ?_
      refine ps_s_la p140_304 g1 hg (by omega) (by omega) ?_
      rw [g2]
      refine ps_s_il p140_305 rfl ?_
      refine ps_s_i2l p140_307 ?_
      refine ps_s_lcmp p140_308 ?_
      rw [lg_self]
      refine ps_s_eq0 p140_309 (by omega) (fun c309 => ?_) (fun c309 => ?_)
      · refine ps_s_go p140_314 ?_
        exact K
      · exact absurd rfl c309
  · exact absurd rfl c292
theorem tl_354 (hd : 1 ≤ d) (htw : tw = cd) (hcd : cd < 4) (hg : G.1 ≤ ou) (ho : cd = 0 → ∃ g, ((rf h0 m r0 tw df dc bf cn nn li P sz pl aD aK aL aT aS aX aM aC aN aO aQ aB aV aH)).1 ou = some (pm_l 1 g) ∧ g 0 = w.toInt64) (K : ps_X G d 140 836 [some (.ref b), some (.ref x), some (.ref m), some (.ref ou), some (iN i), some (iN cd), some (.int w)] [] (rf h0 m r0 tw df dc bf cn nn li P sz pl aD aK aL aT aS aX aM aC aN aO aQ aB aV aH) Q) : ps_X G d 140 354 [some (.ref b), some (.ref x), some (.ref m), some (.ref ou), some (iN i), some (iN cd), some (.int w)] [] (rf h0 m r0 tw df dc bf cn nn li P sz pl aD aK aL aT aS aX aM aC aN aO aQ aB aV aH) Q := by
  subst htw
  first | refine ps_s_al p140_354 rfl ?_ | refine ps_s_aln p140_354 rfl ?_
  refine ps_s_vV [] _ p140_355 rfl rf_o rfl rfl rfl (rf_thrown (ps_bki ?_) d (by omega))
  refine ps_s_il p140_358 rfl ?_
  refine ps_s_eq p140_360 (by omega) (by omega) (fun c360 => ?_) (fun c360 => ?_)
  · refine ps_s_il p140_365 rfl ?_
    refine ps_s_ne0 p140_367 (by omega) (fun c367 => ?_) (fun c367 => ?_)
    · refine ps_s_go p140_382 ?_
      exact K
    · obtain ⟨g, g1, g2⟩ := ho (by omega)
      first | refine ps_s_al p140_370 rfl ?_ | refine ps_s_aln p140_370 rfl ?_
      refine ps_s_k p140_371 ?_
      refine ps_s_la p140_372 g1 hg (by omega) (by omega) ?_
      rw [g2]
      refine ps_s_il p140_373 rfl ?_
      refine ps_s_i2l p140_375 ?_
      refine ps_s_lcmp p140_376 ?_
      rw [lg_self]
      refine ps_s_eq0 p140_377 (by omega) (fun c377 => ?_) (fun c377 => ?_)
      · refine ps_s_go p140_382 ?_
        exact K
      · exact absurd rfl c377
  · exact absurd rfl c360
theorem tl_435 (hd : 1 ≤ d) (htw : tw = cd) (hcd : cd < 4) (hg : G.1 ≤ ou) (ho : cd = 0 → ∃ g, ((rf h0 m r0 tw df dc bf cn nn li P sz pl aD aK aL aT aS aX aM aC aN aO aQ aB aV aH)).1 ou = some (pm_l 1 g) ∧ g 0 = w.toInt64) (K : ps_X G d 140 836 [some (.ref b), some (.ref x), some (.ref m), some (.ref ou), some (iN i), some (iN cd), some (.int w)] [] (rf h0 m r0 tw df dc bf cn nn li P sz pl aD aK aL aT aS aX aM aC aN aO aQ aB aV aH) Q) : ps_X G d 140 435 [some (.ref b), some (.ref x), some (.ref m), some (.ref ou), some (iN i), some (iN cd), some (.int w)] [] (rf h0 m r0 tw df dc bf cn nn li P sz pl aD aK aL aT aS aX aM aC aN aO aQ aB aV aH) Q := by
  subst htw
  first | refine ps_s_al p140_435 rfl ?_ | refine ps_s_aln p140_435 rfl ?_
  refine ps_s_vV [] _ p140_436 rfl rf_o rfl rfl rfl (rf_thrown (ps_bki ?_) d (by omega))
  refine ps_s_il p140_439 rfl ?_
  refine ps_s_eq p140_441 (by omega) (by omega) (fun c441 => ?_) (fun c441 => ?_)
  · refine ps_s_il p140_446 rfl ?_
    refine ps_s_ne0 p140_448 (by omega) (fun c448 => ?_) (fun c448 => ?_)
    · refine ps_s_go p140_463 ?_
      exact K
    · obtain ⟨g, g1, g2⟩ := ho (by omega)
      first | refine ps_s_al p140_451 rfl ?_ | refine ps_s_aln p140_451 rfl ?_
      refine ps_s_k p140_452 ?_
      refine ps_s_la p140_453 g1 hg (by omega) (by omega) ?_
      rw [g2]
      refine ps_s_il p140_454 rfl ?_
      refine ps_s_i2l p140_456 ?_
      refine ps_s_lcmp p140_457 ?_
      rw [lg_self]
      refine ps_s_eq0 p140_458 (by omega) (fun c458 => ?_) (fun c458 => ?_)
      · refine ps_s_go p140_463 ?_
        exact K
      · exact absurd rfl c458
  · exact absurd rfl c441
theorem tl_491 (hd : 1 ≤ d) (htw : tw = cd) (hcd : cd < 4) (hg : G.1 ≤ ou) (ho : cd = 0 → ∃ g, ((rf h0 m r0 tw df dc bf cn nn li P sz pl aD aK aL aT aS aX aM aC aN aO aQ aB aV aH)).1 ou = some (pm_l 1 g) ∧ g 0 = w.toInt64) (K : ps_X G d 140 836 [some (.ref b), some (.ref x), some (.ref m), some (.ref ou), some (iN i), some (iN cd), some (.int w)] [] (rf h0 m r0 tw df dc bf cn nn li P sz pl aD aK aL aT aS aX aM aC aN aO aQ aB aV aH) Q) : ps_X G d 140 491 [some (.ref b), some (.ref x), some (.ref m), some (.ref ou), some (iN i), some (iN cd), some (.int w)] [] (rf h0 m r0 tw df dc bf cn nn li P sz pl aD aK aL aT aS aX aM aC aN aO aQ aB aV aH) Q := by
  subst htw
  first | refine ps_s_al p140_491 rfl ?_ | refine ps_s_aln p140_491 rfl ?_
  refine ps_s_vV [] _ p140_492 rfl rf_o rfl rfl rfl (rf_thrown (ps_bki ?_) d (by omega))
  refine ps_s_il p140_495 rfl ?_
  refine ps_s_eq p140_497 (by omega) (by omega) (fun c497 => ?_) (fun c497 => ?_)
  · refine ps_s_il p140_502 rfl ?_
    refine ps_s_ne0 p140_504 (by omega) (fun c504 => ?_) (fun c504 => ?_)
    · refine ps_s_go p140_519 ?_
      exact K
    · obtain ⟨g, g1, g2⟩ := ho (by omega)
      first | refine ps_s_al p140_507 rfl ?_ | refine ps_s_aln p140_507 rfl ?_
      refine ps_s_k p140_508 ?_
      refine ps_s_la p140_509 g1 hg (by omega) (by omega) ?_
      rw [g2]
      refine ps_s_il p140_510 rfl ?_
      refine ps_s_i2l p140_512 ?_
      refine ps_s_lcmp p140_513 ?_
      rw [lg_self]
      refine ps_s_eq0 p140_514 (by omega) (fun c514 => ?_) (fun c514 => ?_)
      · refine ps_s_go p140_519 ?_
        exact K
      · exact absurd rfl c514
  · exact absurd rfl c497
theorem tl_535 (hd : 1 ≤ d) (htw : tw = cd) (hcd : cd < 4) (hg : G.1 ≤ ou) (ho : cd = 0 → ∃ g, ((rf h0 m r0 tw df dc bf cn nn li P sz pl aD aK aL aT aS aX aM aC aN aO aQ aB aV aH)).1 ou = some (pm_l 1 g) ∧ g 0 = w.toInt64) (K : ps_X G d 140 836 [some (.ref b), some (.ref x), some (.ref m), some (.ref ou), some (iN i), some (iN cd), some (.int w)] [] (rf h0 m r0 tw df dc bf cn nn li P sz pl aD aK aL aT aS aX aM aC aN aO aQ aB aV aH) Q) : ps_X G d 140 535 [some (.ref b), some (.ref x), some (.ref m), some (.ref ou), some (iN i), some (iN cd), some (.int w)] [] (rf h0 m r0 tw df dc bf cn nn li P sz pl aD aK aL aT aS aX aM aC aN aO aQ aB aV aH) Q := by
  subst htw
  first | refine ps_s_al p140_535 rfl ?_ | refine ps_s_aln p140_535 rfl ?_
  refine ps_s_vV [] _ p140_536 rfl rf_o rfl rfl rfl (rf_thrown (ps_bki ?_) d (by omega))
  refine ps_s_il p140_539 rfl ?_
  refine ps_s_eq p140_541 (by omega) (by omega) (fun c541 => ?_) (fun c541 => ?_)
  · refine ps_s_il p140_546 rfl ?_
    refine ps_s_ne0 p140_548 (by omega) (fun c548 => ?_) (fun c548 => ?_)
    · refine ps_s_go p140_563 ?_
      exact K
    · obtain ⟨g, g1, g2⟩ := ho (by omega)
      first | refine ps_s_al p140_551 rfl ?_ | refine ps_s_aln p140_551 rfl ?_
      refine ps_s_k p140_552 ?_
      refine ps_s_la p140_553 g1 hg (by omega) (by omega) ?_
      rw [g2]
      refine ps_s_il p140_554 rfl ?_
      refine ps_s_i2l p140_556 ?_
      refine ps_s_lcmp p140_557 ?_
      rw [lg_self]
      refine ps_s_eq0 p140_558 (by omega) (fun c558 => ?_) (fun c558 => ?_)
      · refine ps_s_go p140_563 ?_
        exact K
      · exact absurd rfl c558
  · exact absurd rfl c541
theorem tl_579 (hd : 1 ≤ d) (htw : tw = cd) (hcd : cd < 4) (hg : G.1 ≤ ou) (ho : cd = 0 → ∃ g, ((rf h0 m r0 tw df dc bf cn nn li P sz pl aD aK aL aT aS aX aM aC aN aO aQ aB aV aH)).1 ou = some (pm_l 1 g) ∧ g 0 = w.toInt64) (K : ps_X G d 140 836 [some (.ref b), some (.ref x), some (.ref m), some (.ref ou), some (iN i), some (iN cd), some (.int w)] [] (rf h0 m r0 tw df dc bf cn nn li P sz pl aD aK aL aT aS aX aM aC aN aO aQ aB aV aH) Q) : ps_X G d 140 579 [some (.ref b), some (.ref x), some (.ref m), some (.ref ou), some (iN i), some (iN cd), some (.int w)] [] (rf h0 m r0 tw df dc bf cn nn li P sz pl aD aK aL aT aS aX aM aC aN aO aQ aB aV aH) Q := by
  subst htw
  first | refine ps_s_al p140_579 rfl ?_ | refine ps_s_aln p140_579 rfl ?_
  refine ps_s_vV [] _ p140_580 rfl rf_o rfl rfl rfl (rf_thrown (ps_bki ?_) d (by omega))
  refine ps_s_il p140_583 rfl ?_
  refine ps_s_eq p140_585 (by omega) (by omega) (fun c585 => ?_) (fun c585 => ?_)
  · refine ps_s_il p140_590 rfl ?_
    refine ps_s_ne0 p140_592 (by omega) (fun c592 => ?_) (fun c592 => ?_)
    · refine ps_s_go p140_607 ?_
      exact K
    · obtain ⟨g, g1, g2⟩ := ho (by omega)
      first | refine ps_s_al p140_595 rfl ?_ | refine ps_s_aln p140_595 rfl ?_
      refine ps_s_k p140_596 ?_
      refine ps_s_la p140_597 g1 hg (by omega) (by omega) ?_
      rw [g2]
      refine ps_s_il p140_598 rfl ?_
      refine ps_s_i2l p140_600 ?_
      refine ps_s_lcmp p140_601 ?_
      rw [lg_self]
      refine ps_s_eq0 p140_602 (by omega) (fun c602 => ?_) (fun c602 => ?_)
      · refine ps_s_go p140_607 ?_
        exact K
      · exact absurd rfl c602
  · exact absurd rfl c585
theorem tl_635 (hd : 1 ≤ d) (htw : tw = cd) (hcd : cd < 4) (hg : G.1 ≤ ou) (ho : cd = 0 → ∃ g, ((rf h0 m r0 tw df dc bf cn nn li P sz pl aD aK aL aT aS aX aM aC aN aO aQ aB aV aH)).1 ou = some (pm_l 1 g) ∧ g 0 = w.toInt64) (K : ps_X G d 140 836 [some (.ref b), some (.ref x), some (.ref m), some (.ref ou), some (iN i), some (iN cd), some (.int w)] [] (rf h0 m r0 tw df dc bf cn nn li P sz pl aD aK aL aT aS aX aM aC aN aO aQ aB aV aH) Q) : ps_X G d 140 635 [some (.ref b), some (.ref x), some (.ref m), some (.ref ou), some (iN i), some (iN cd), some (.int w)] [] (rf h0 m r0 tw df dc bf cn nn li P sz pl aD aK aL aT aS aX aM aC aN aO aQ aB aV aH) Q := by
  subst htw
  first | refine ps_s_al p140_635 rfl ?_ | refine ps_s_aln p140_635 rfl ?_
  refine ps_s_vV [] _ p140_636 rfl rf_o rfl rfl rfl (rf_thrown (ps_bki ?_) d (by omega))
  refine ps_s_il p140_639 rfl ?_
  refine ps_s_eq p140_641 (by omega) (by omega) (fun c641 => ?_) (fun c641 => ?_)
  · refine ps_s_il p140_646 rfl ?_
    refine ps_s_ne0 p140_648 (by omega) (fun c648 => ?_) (fun c648 => ?_)
    · refine ps_s_go p140_663 ?_
      exact K
    · obtain ⟨g, g1, g2⟩ := ho (by omega)
      first | refine ps_s_al p140_651 rfl ?_ | refine ps_s_aln p140_651 rfl ?_
      refine ps_s_k p140_652 ?_
      refine ps_s_la p140_653 g1 hg (by omega) (by omega) ?_
      rw [g2]
      refine ps_s_il p140_654 rfl ?_
      refine ps_s_i2l p140_656 ?_
      refine ps_s_lcmp p140_657 ?_
      rw [lg_self]
      refine ps_s_eq0 p140_658 (by omega) (fun c658 => ?_) (fun c658 => ?_)
      · refine ps_s_go p140_663 ?_
        exact K
      · exact absurd rfl c658
  · exact absurd rfl c641
theorem tl_691 (hd : 1 ≤ d) (htw : tw = cd) (hcd : cd < 4) (hg : G.1 ≤ ou) (ho : cd = 0 → ∃ g, ((rf h0 m r0 tw df dc bf cn nn li P sz pl aD aK aL aT aS aX aM aC aN aO aQ aB aV aH)).1 ou = some (pm_l 1 g) ∧ g 0 = w.toInt64) (K : ps_X G d 140 836 [some (.ref b), some (.ref x), some (.ref m), some (.ref ou), some (iN i), some (iN cd), some (.int w)] [] (rf h0 m r0 tw df dc bf cn nn li P sz pl aD aK aL aT aS aX aM aC aN aO aQ aB aV aH) Q) : ps_X G d 140 691 [some (.ref b), some (.ref x), some (.ref m), some (.ref ou), some (iN i), some (iN cd), some (.int w)] [] (rf h0 m r0 tw df dc bf cn nn li P sz pl aD aK aL aT aS aX aM aC aN aO aQ aB aV aH) Q := by
  subst htw
  first | refine ps_s_al p140_691 rfl ?_ | refine ps_s_aln p140_691 rfl ?_
  refine ps_s_vV [] _ p140_692 rfl rf_o rfl rfl rfl (rf_thrown (ps_bki ?_) d (by omega))
  refine ps_s_il p140_695 rfl ?_
  refine ps_s_eq p140_697 (by omega) (by omega) (fun c697 => ?_) (fun c697 => ?_)
  · refine ps_s_il p140_702 rfl ?_
    refine ps_s_ne0 p140_704 (by omega) (fun c704 => ?_) (fun c704 => ?_)
    · refine ps_s_go p140_719 ?_
      exact K
    · obtain ⟨g, g1, g2⟩ := ho (by omega)
      first | refine ps_s_al p140_707 rfl ?_ | refine ps_s_aln p140_707 rfl ?_
      refine ps_s_k p140_708 ?_
      refine ps_s_la p140_709 g1 hg (by omega) (by omega) ?_
      rw [g2]
      refine ps_s_il p140_710 rfl ?_
      refine ps_s_i2l p140_712 ?_
      refine ps_s_lcmp p140_713 ?_
      rw [lg_self]
      refine ps_s_eq0 p140_714 (by omega) (fun c714 => ?_) (fun c714 => ?_)
      · refine ps_s_go p140_719 ?_
        exact K
      · exact absurd rfl c714
  · exact absurd rfl c697
end LTL

section
variable {nd es : Nat} {ls et : Int32} {co ca pc ra rb sp mk dp fc fa fb fm sl st lf su pg ss ql qs qr hd fl ek ep ev er : Nat → Int32}
variable {m L p : Nat} {R T : Nat → Nat → Prop}
theorem pv_exec {post : St2 → Prop} {c : Nat} (hp : p < 2) (hL : L < 1000) (hx : pv_X nd co dp ql qs hd) (hm : es = min m 128) (hG : m ≤ 128 → pv_GA m L lf pg ss ql qs qr ek ep ev er R T) (hc : c < 32) (ec : pc p = nI c) (hl : lf p = 0) (K : ∀ {nd1 es1 : Nat} {ls1 et1 : Int32} {co1 ca1 pc1 ra1 rb1 sp1 mk1 dp1 fc1 fa1 fb1 fm1 sl1 st1 lf1 su1 pg1 ss1 ql1 qs1 qr1 hd1 fl1 ek1 ep1 ev1 er1 : Nat → Int32}, pv_F p nd m es L R T ls pc ra rb sp mk dp fc fa fb fm sl fl ek ep ev er nd1 es1 ls1 et1 co1 pc1 ra1 rb1 sp1 mk1 dp1 fc1 fa1 fb1 fm1 lf1 pg1 ss1 ql1 qs1 qr1 hd1 ek1 ep1 ev1 er1 → post (nI 2, nI nd1, ls1, et1, nI es1, co1, ca1, pc1, ra1, rb1, sp1, mk1, dp1, fc1, fa1, fb1, fm1, sl1, st1, lf1, su1, pg1, ss1, ql1, qs1, qr1, hd1, fl1, ek1, ep1, ev1, er1)) : wpX_execute post (nI 2, nI nd, ls, nI m, nI es, co, ca, pc, ra, rb, sp, mk, dp, fc, fa, fb, fm, sl, st, lf, su, pg, ss, ql, qs, qr, hd, fl, ek, ep, ev, er) (nI p) := by
  have hs : es ≤ 128 := pv_le hm
  have hp4 : p < 4 := by omega
  have e1 : vp_in (nI p) 4 := vp_in_nI hp4 (by decide)
  have e2 : (nI p).toNatClampNeg = p := nI_clamp (by omega)
  by_cases o0 : co (p * 32 + c) = 0
  · exact sx_x0 hp4 hc ec o0 hs (K (pv_ev (pv_X_die hx) hm (fun h => pv_GA_nd (by decide) (pv_GA_die hp (Or.inl rfl) (hG (by omega)))) fun _ _ => rfl))
  by_cases o4 : co (p * 32 + c) = 4
  · exact sx_x4 hp4 hc ec o4 (K (pv_reg hx hm hG fun q hq => ⟨pk_un hq, rfl, rfl, rfl⟩))
  by_cases o5 : co (p * 32 + c) = 5
  · by_cases z : ra p = 0
    · exact sx_x5 hp4 hc ec o5 z (K (pv_reg hx hm hG fun q hq => ⟨pk_un hq, rfl, rfl, rfl⟩))
    · exact sx_x5b hp4 hc ec o5 z (K (pv_reg hx hm hG fun q hq => ⟨pk_un hq, rfl, rfl, rfl⟩))
  by_cases o9 : co (p * 32 + c) = 9
  · by_cases z : ca (p * 32 + c) ≤ 0
    · exact sx_x9b hp4 hc ec o9 z (K (pv_reg hx hm hG fun q hq => ⟨pk_un hq, pk_un hq, rfl, rfl⟩))
    · exact sx_x9 hp4 hc ec o9 z (K (pv_reg hx hm hG fun q hq => ⟨rfl, rfl, rfl, rfl⟩))
  by_cases o1 : co (p * 32 + c) = 1
  · exact sx_x1 hp4 hc ec o1 (K (pv_reg hx hm hG fun q hq => ⟨pk_un hq, pk_un hq, rfl, rfl⟩))
  by_cases o2 : co (p * 32 + c) = 2
  · exact sx_x2 hp4 hc ec o2 (K (pv_reg hx hm hG fun q hq => ⟨pk_un hq, rfl, pk_un hq, rfl⟩))
  by_cases o3 : co (p * 32 + c) = 3
  · exact sx_x3 hp4 hc ec o3 (K (pv_reg hx hm hG fun q hq => ⟨pk_un hq, pk_un hq, rfl, rfl⟩))
  have o6 : ¬ co (p * 32 + c) = 6 := hx.2.1 _
  by_cases o7 : co (p * 32 + c) = 7
  · by_cases k0 : ca (p * 32 + c) = 0
    · exact sx_x7a hp4 hc ec o7 k0 (K (pv_reg hx hm hG fun q hq => ⟨pk_un hq, pk_un hq, rfl, pk_un hq⟩))
    by_cases k1 : ca (p * 32 + c) = 1
    · exact sx_x7b hp4 hc ec o7 k1 (K (pv_reg hx hm hG fun q hq => ⟨pk_un hq, pk_un hq, rfl, pk_un hq⟩))
    by_cases k2 : ca (p * 32 + c) = 2
    · exact sx_x7c hp4 hc ec o7 k2 (K (pv_reg hx hm hG fun q hq => ⟨pk_un hq, pk_un hq, rfl, pk_un hq⟩))
    exact sx_x7d hp4 hc ec o7 k0 k1 k2 (K (pv_reg hx hm hG fun q hq => ⟨pk_un hq, pk_un hq, rfl, rfl⟩))
  by_cases o8 : co (p * 32 + c) = 8
  · have e3 : vp_in (nI (p * 32 + c)) 128 := vp_in_nI (by omega) (by decide)
    have e4 : (nI (p * 32 + c)).toNatClampNeg = p * 32 + c := nI_clamp (by omega)
    have e5 : nI p * 32 + pc (nI p).toNatClampNeg = nI (p * 32 + c) := by rw [e2, ec, sk_ix32]
    have ho' : co (nI (p * 32 + c)).toNatClampNeg = 8 := by rw [e4]; exact o8
    have hk' : ca (nI (p * 32 + c)).toNatClampNeg = ca (p * 32 + c) := by rw [e4]
    unfold wpX_execute
    refine ⟨e1, nm_r e5 ⟨e3, nm_r ho' ⟨e3, nm_r hk' (br_f (by decide) (br_f (by decide) (br_f (by decide) (br_f (by decide) (br_f (by decide) (br_f (by decide) (br_f (by decide) (br_f (by decide) (br_f (by decide) (br_f (by decide) (br_t rfl ⟨e1, e1, ?_⟩)))))))))))⟩⟩⟩
    rw [e2]
    rcases sk_cat (ca (p * 32 + c)) with hk | ⟨g, h1, hg, h9, h15, hk⟩
    · refine sx_setb0 (np := 2) hp (by decide) hl hk ?_
      simp only [e1, e2, true_implies, false_implies, not_true_eq_false, not_false_eq_true, and_true, true_and, forall_eq, implies_true]
      exact K (pv_reg hx hm hG fun q hq => ⟨pk_un hq, pk_un hq, rfl, rfl⟩)
    · rw [hk]
      rcases sk_hd (ra p) with hxx | ⟨n1, n2, hxx⟩
      · have hx' : ra p = -2 ∨ ra p = -1 ∨ 0 ≤ ra p := hxx.imp_right fun z => z.imp_right fun ⟨j, hj, e⟩ => by rw [e]; exact nI_pos' (by omega)
        refine sx_setb1 (np := 2) hp (by decide) hl h1 hg h9 h15 hxx ?_
        simp only [e1, e2, true_implies, false_implies, not_true_eq_false, not_false_eq_true, and_true, true_and, forall_eq, implies_true]
        exact K (pv_reg ⟨hx.1, hx.2.1, hx.2.2.1, hx.2.2.2.1, sk_HD_u hx.2.2.2.2 hx'⟩ hm hG fun q hq => ⟨pk_un hq, pk_un hq, rfl, rfl⟩)
      · refine sx_setb2 (np := 2) hp (by decide) hl h1 hg h9 h15 n1 n2 hxx ?_
        simp only [e1, e2, true_implies, false_implies, not_true_eq_false, not_false_eq_true, and_true, true_and, forall_eq, implies_true]
        exact K (pv_reg hx hm hG fun q hq => ⟨pk_un hq, pk_un hq, rfl, rfl⟩)
  by_cases o10 : co (p * 32 + c) = 10
  · obtain ⟨d', hd4, ed⟩ := hx.2.2.1 p hp4
    cases d' with
    | zero => exact sx_x10b hp4 hc ec o10 ed (K (pv_reg hx hm hG fun q hq => ⟨pk_un hq, pk_un hq, rfl, rfl⟩))
    | succ d =>
      exact sx_x10 hp4 hc ec o10 hd4 ed (K ⟨rfl, rfl, ⟨hx.1, hx.2.1, sk_DP_u hx.2.2.1 (by omega), hx.2.2.2.1, hx.2.2.2.2⟩, ⟨m, rfl, hm, Or.inl rfl, hG⟩, fun _ _ => ⟨rfl, rfl, rfl, rfl⟩, fun q _ hq => ⟨pk_un hq, pk_un hq, pk_un hq, pk_un hq, pk_un hq, pk_un hq, pv_fr_0⟩, Or.inr (Or.inr ⟨d, hd4, ed, pk_us, pk_us, pk_us, pk_us, pk_us, pk_us, pv_fr_0⟩)⟩)
  by_cases o11 : co (p * 32 + c) = 11
  · exact sx_x11 hp4 hc ec o11 hs (K (pv_ev hx hm (fun h => pv_GA_nd (by decide) (hG (by omega))) fun q hq => pk_un hq))
  by_cases o12 : co (p * 32 + c) = 12
  · exact sx_x12 hp4 hc ec o12 (K (pv_reg hx hm hG fun q hq => ⟨pk_un hq, rfl, pk_un hq, rfl⟩))
  by_cases o13 : co (p * 32 + c) = 13
  · obtain ⟨l, hl8, el, _⟩ := hx.2.2.2.1 p hp4
    exact sx_x13 hp4 hc ec o13 hl8 el (K (pv_reg hx hm hG fun q hq => ⟨pk_un hq, pk_un hq, rfl, rfl⟩))
  by_cases o14 : co (p * 32 + c) = 14
  · exact sx_x14 hp4 hc ec o14 (K (pv_reg hx hm hG fun q hq => ⟨pk_un hq, pk_un hq, pk_un hq, rfl⟩))
  exact sx_xN hp4 hc ec o0 o1 o2 o3 o4 o5 o6 o7 o8 o9 o10 o11 o12 o13 o14 (K (pv_reg hx hm hG fun q hq => ⟨pk_un hq, rfl, rfl, rfl⟩))
theorem pv_step {post : St2 → Prop} (hp : p < 2) (hL : L < 1000) (hx : pv_X nd co dp ql qs hd) (hm : es = min m 128) (hG : m ≤ 128 → pv_GA m L lf pg ss ql qs qr ek ep ev er R T) (hl : lf p = 0) (K : ∀ {nd1 es1 : Nat} {ls1 et1 : Int32} {co1 ca1 pc1 ra1 rb1 sp1 mk1 dp1 fc1 fa1 fb1 fm1 sl1 st1 lf1 su1 pg1 ss1 ql1 qs1 qr1 hd1 fl1 ek1 ep1 ev1 er1 : Nat → Int32}, pv_F p nd m es L R T ls pc ra rb sp mk dp fc fa fb fm sl fl ek ep ev er nd1 es1 ls1 et1 co1 pc1 ra1 rb1 sp1 mk1 dp1 fc1 fa1 fb1 fm1 lf1 pg1 ss1 ql1 qs1 qr1 hd1 ek1 ep1 ev1 er1 → post (nI 2, nI nd1, ls1, et1, nI es1, co1, ca1, pc1, ra1, rb1, sp1, mk1, dp1, fc1, fa1, fb1, fm1, sl1, st1, lf1, su1, pg1, ss1, ql1, qs1, qr1, hd1, fl1, ek1, ep1, ev1, er1)) : wpX_step post (nI 2, nI nd, ls, nI m, nI es, co, ca, pc, ra, rb, sp, mk, dp, fc, fa, fb, fm, sl, st, lf, su, pg, ss, ql, qs, qr, hd, fl, ek, ep, ev, er) (nI p) := by
  have hs : es ≤ 128 := pv_le hm
  have hp4 : p < 4 := by omega
  have e1 : vp_in (nI p) 4 := vp_in_nI hp4 (by decide)
  have e2 : (nI p).toNatClampNeg = p := nI_clamp (by omega)
  unfold wpX_step
  refine pv_deliver hp hL hx hm hG ?_ (fun f => br_f (by decide) (K f))
  refine br_t rfl ⟨e1, ?_⟩
  by_cases hsl : sl p ≤ 0
  · refine br_t (by rw [e2]; exact hsl) ⟨e1, ?_⟩
    rw [e2]
    rcases pk_ix (pc p) (n := 32) (by decide) with hc | hc | ⟨c, hc, ec⟩
    · refine sx_cell0 (Or.inl hc) ?_
      refine br_t rfl ?_
      refine sx_term hp4 hs ?_
      exact K (pv_ev (pv_X_die hx) hm (fun h => pv_GA_die hp (Or.inr rfl) (pv_GA_zero hp hL (hG (by omega)))) fun _ _ => rfl)
    · refine sx_cell0 (Or.inr hc) ?_
      refine br_t rfl ?_
      refine sx_term hp4 hs ?_
      exact K (pv_ev (pv_X_die hx) hm (fun h => pv_GA_die hp (Or.inr rfl) (pv_GA_zero hp hL (hG (by omega)))) fun _ _ => rfl)
    · rw [ec]
      refine sx_cell1 hc ?_
      refine br_f (by decide) ?_
      exact pv_exec hp hL hx hm hG hc ec hl (fun f => K f)
  · refine br_f (by rw [e2]; exact hsl) ?_
    by_cases z : sl p - 1 = 0
    · simp only [wpX_sleepOn, e1, e2, pk_us, z, true_implies, false_implies, not_true_eq_false, not_false_eq_true, and_true, true_and, forall_eq, implies_true]
      exact K (pv_reg hx hm hG fun q hq => ⟨pk_un hq, pk_un hq, rfl, rfl⟩)
    · simp only [wpX_sleepOn, e1, e2, pk_us, z, true_implies, false_implies, not_true_eq_false, not_false_eq_true, and_true, true_and, forall_eq, implies_true]
      exact K (pv_reg hx hm hG fun q hq => ⟨rfl, rfl, rfl, rfl⟩)
theorem pv_iter {post : Int32 → St2 → Prop} {J : Int32 → Int32 → Int32 → Int32 → Int32 → Int32 → Int32 → (Nat → Int32) → (Nat → Int32) → (Nat → Int32) → (Nat → Int32) → (Nat → Int32) → (Nat → Int32) → (Nat → Int32) → (Nat → Int32) → (Nat → Int32) → (Nat → Int32) → (Nat → Int32) → (Nat → Int32) → (Nat → Int32) → (Nat → Int32) → (Nat → Int32) → (Nat → Int32) → (Nat → Int32) → (Nat → Int32) → (Nat → Int32) → (Nat → Int32) → (Nat → Int32) → (Nat → Int32) → (Nat → Int32) → (Nat → Int32) → (Nat → Int32) → (Nat → Int32) → (Nat → Int32) → Prop} {x2 x4 c : Int32} {n : Nat} (hp : p < 2) (hL : L < 1000) (hx : pv_X nd co dp ql qs hd) (hm : es = min m 128) (hG : m ≤ 128 → pv_GA m L lf pg ss ql qs qr ek ep ev er R T) (K : ∀ (c' : Int32) {nd1 es1 : Nat} {ls1 et1 : Int32} {co1 ca1 pc1 ra1 rb1 sp1 mk1 dp1 fc1 fa1 fb1 fm1 sl1 st1 lf1 su1 pg1 ss1 ql1 qs1 qr1 hd1 fl1 ek1 ep1 ev1 er1 : Nat → Int32}, pv_F p nd m es L R T ls pc ra rb sp mk dp fc fa fb fm sl fl ek ep ev er nd1 es1 ls1 et1 co1 pc1 ra1 rb1 sp1 mk1 dp1 fc1 fa1 fb1 fm1 lf1 pg1 ss1 ql1 qs1 qr1 hd1 ek1 ep1 ev1 er1 → wX_run_22 post J x2 x4 n c' (nI (p + 1)) (nI 2) (nI nd1) ls1 et1 (nI es1) co1 ca1 pc1 ra1 rb1 sp1 mk1 dp1 fc1 fa1 fb1 fm1 sl1 st1 lf1 su1 pg1 ss1 ql1 qs1 qr1 hd1 fl1 ek1 ep1 ev1 er1) : wX_run_22 post J x2 x4 (n + 1) c (nI p) (nI 2) (nI nd) ls (nI m) (nI es) co ca pc ra rb sp mk dp fc fa fb fm sl st lf su pg ss ql qs qr hd fl ek ep ev er := by
  have hp4 : p < 4 := by omega
  have e1 : vp_in (nI p) 4 := vp_in_nI hp4 (by decide)
  have e2 : (nI p).toNatClampNeg = p := nI_clamp (by omega)
  have z : ¬ nI 2 ≤ nI p := nI_ge hp (by decide)
  rw [wX_run_22]
  refine br_f z ⟨e1, br_c (fun hl => ⟨e1, br_c (fun _ => ?_) fun _ => nm_r (nI_1 p) (K c (pv_reg hx hm hG fun q hq => ⟨rfl, rfl, rfl, rfl⟩))⟩) fun _ => nm_r (nI_1 p) (K c (pv_reg hx hm hG fun q hq => ⟨rfl, rfl, rfl, rfl⟩))⟩
  rw [e2] at hl
  exact pv_step hp hL hx hm hG hl (fun f => nm_e (nm_r (nI_1 p) (K _ f)))
end
section
variable {nd es : Nat} {ls et : Int32} {co ca pc ra rb sp mk dp fc fa fb fm sl st lf su pg ss ql qs qr hd fl ek ep ev er : Nat → Int32}
variable {m L : Nat} {R T : Nat → Nat → Prop}
theorem pv_run {post : Int32 → St2 → Prop} (hL : L < 1000) (hx : pv_X nd co dp ql qs hd) (hm : es = min m 128) (hG : m ≤ 128 → pv_GA m L lf pg ss ql qs qr ek ep ev er R T) (K : ∀ (r : Int32) {nd1 es1 : Nat} {ls1 et1 : Int32} {co1 ca1 pc1 ra1 rb1 sp1 mk1 dp1 fc1 fa1 fb1 fm1 sl1 st1 lf1 su1 pg1 ss1 ql1 qs1 qr1 hd1 fl1 ek1 ep1 ev1 er1 : Nat → Int32} {m1 : Nat} {nd2 es2 : Nat} {ls2 et2 : Int32} {co2 ca2 pc2 ra2 rb2 sp2 mk2 dp2 fc2 fa2 fb2 fm2 sl2 st2 lf2 su2 pg2 ss2 ql2 qs2 qr2 hd2 fl2 ek2 ep2 ev2 er2 : Nat → Int32}, et1 = nI m1 → es1 = min m1 128 → (m1 = m ∨ m1 = m + 1) → pv_F 0 nd m es L R T ls pc ra rb sp mk dp fc fa fb fm sl fl ek ep ev er nd1 es1 ls1 et1 co1 pc1 ra1 rb1 sp1 mk1 dp1 fc1 fa1 fb1 fm1 lf1 pg1 ss1 ql1 qs1 qr1 hd1 ek1 ep1 ev1 er1 → pv_F 1 nd1 m1 es1 L R T ls1 pc1 ra1 rb1 sp1 mk1 dp1 fc1 fa1 fb1 fm1 sl1 fl1 ek1 ep1 ev1 er1 nd2 es2 ls2 et2 co2 pc2 ra2 rb2 sp2 mk2 dp2 fc2 fa2 fb2 fm2 lf2 pg2 ss2 ql2 qs2 qr2 hd2 ek2 ep2 ev2 er2 → post r (nI 2, nI nd2, ls2, et2, nI es2, co2, ca2, pc2, ra2, rb2, sp2, mk2, dp2, fc2, fa2, fb2, fm2, sl2, st2, lf2, su2, pg2, ss2, ql2, qs2, qr2, hd2, fl2, ek2, ep2, ev2, er2)) : wpX_run post (nI 2, nI nd, ls, nI m, nI es, co, ca, pc, ra, rb, sp, mk, dp, fc, fa, fb, fm, sl, st, lf, su, pg, ss, ql, qs, qr, hd, fl, ek, ep, ev, er) 1 := by
  unfold wpX_run
  refine br_t (by decide) (br_t (by decide) ⟨2, ?_⟩)
  rw [wX_run_13]
  refine br_f (by decide) ⟨3, ?_⟩
  refine pv_iter (p := 0) (by decide) hL hx hm hG (fun c' => ?_)
  intro nd1 es1 ls1 et1 co1 ca1 pc1 ra1 rb1 sp1 mk1 dp1 fc1 fa1 fb1 fm1 sl1 st1 lf1 su1 pg1 ss1 ql1 qs1 qr1 hd1 fl1 ek1 ep1 ev1 er1 F1
  obtain ⟨rfl, f2, hx1, ⟨m1, rfl, hm1, f4, hG1⟩, f5⟩ := id F1
  refine pv_iter (p := 1) (by decide) hL hx1 hm1 hG1 (fun c'' => ?_)
  intro nd2 es2 ls2 et2 co2 ca2 pc2 ra2 rb2 sp2 mk2 dp2 fc2 fa2 fb2 fm2 sl2 st2 lf2 su2 pg2 ss2 ql2 qs2 qr2 hd2 fl2 ek2 ep2 ev2 er2 F2
  rw [wX_run_22]
  refine br_t (by decide) (nm_e ?_)
  rw [wX_run_13]
  refine br_t (by decide) ?_
  exact K _ (ca1 := ca1) (st1 := st1) (su1 := su1) rfl hm1 f4 F1 F2
end

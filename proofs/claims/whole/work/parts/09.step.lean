section
variable {np nd es : Nat} {ls et : Int32} {co ca pc ra rb sp mk dp fc fa fb fm sl st lf su pg pn ss ql qs qr hd fl ek ep ev er : Nat → Int32}
theorem sk_exec {p c : Nat} (I : sk_Inv np nd es pg pn ss dp ql qs hd sl mk fm) (hp' : p < np) (hc : c < 32) (ec : pc p = nI c) (hl : lf p = 0) (ht : st p = 0) (hsl : sl p ≤ 0) (hd0 : ∀ post : Int32 → SY → Prop, post 0 (nI np, nI nd, ls, et, nI es, co, ca, pc, ra, rb, sp, mk, dp, sl, lf, su, ql, st, pn, ss, qs, qr, hd, fl, fc, fa, fb, fm, ek, ep, ev, er) → wpY_deliver post (nI np, nI nd, ls, et, nI es, co, ca, pc, ra, rb, sp, mk, dp, sl, lf, su, ql, st, pn, ss, qs, qr, hd, fl, fc, fa, fb, fm, ek, ep, ev, er) (nI p)) : ∃ u v, sk_Rel np u v ∧ (∀ post : SX → Prop, post u → wpX_execute post (nI np, nI nd, ls, et, nI es, co, ca, pc, ra, rb, sp, mk, dp, fc, fa, fb, fm, sl, st, lf, su, pg, ss, ql, qs, qr, hd, fl, ek, ep, ev, er) (nI p)) ∧ (∀ post : Int32 → SY → Prop, post 1 v → wpY_step post (nI np, nI nd, ls, et, nI es, co, ca, pc, ra, rb, sp, mk, dp, sl, lf, su, ql, st, pn, ss, qs, qr, hd, fl, fc, fa, fb, fm, ek, ep, ev, er) (nI p)) := by
  have hs := sk_I_es I
  have hn := sk_I_np I
  have hp : p < 4 := by omega
  have e1 : vp_in (nI p) 4 := vp_in_nI hp (by decide)
  have e2 : (nI p).toNatClampNeg = p := nI_clamp (by omega)
  by_cases o0 : co (p * 32 + c) = 0
  · exact ⟨(nI np, nI nd, ls, et + 1, nI (sk_lgN es), co, ca, pc, ra, rb, sp, mk, dp, fc, fa, fb, fm, upd sl p 0, upd st p 0, upd lf p 3, upd su p (ra p), upd pg p 0, sk_clr ss (p * 16) 16, upd ql p 0, qs, qr, hd, fl, sk_lgA ek es 7, sk_lgA ep es (nI p), sk_lgA ev es (ra p), sk_lgA er es 0), (nI np, nI nd, ls, et + 1, nI (sk_lgN es), co, ca, pc, ra, rb, sp, mk, dp, upd sl p 0, upd lf p 3, upd su p (ra p), upd ql p 0, upd st p 0, sk_clr pn (p * 16) 16, sk_clr ss (p * 16) 16, qs, qr, hd, fl, fc, fa, fb, fm, sk_lgA ek es 7, sk_lgA ep es (nI p), sk_lgA ev es (ra p), sk_lgA er es 0), sk_mk (sk_I_log (sk_I_die I)), fun post h => sx_x0 hp hc ec o0 hs h, fun post h => sy_s0 hp hc ec hl ht hsl hd0 hs o0 h⟩
  by_cases o4 : co (p * 32 + c) = 4
  · exact ⟨(nI np, nI nd, ls, et, nI es, co, ca, upd pc p (ca (p * 32 + c)), ra, rb, sp, mk, dp, fc, fa, fb, fm, sl, st, lf, su, pg, ss, ql, qs, qr, hd, fl, ek, ep, ev, er), (nI np, nI nd, ls, et, nI es, co, ca, upd pc p (ca (p * 32 + c)), ra, rb, sp, mk, dp, sl, lf, su, ql, st, pn, ss, qs, qr, hd, fl, fc, fa, fb, fm, ek, ep, ev, er), sk_mk I, fun post h => sx_x4 hp hc ec o4 h, fun post h => sy_s4 hp hc ec hl ht hsl hd0 o4 h⟩
  by_cases o5 : co (p * 32 + c) = 5
  · by_cases z : ra p = 0
    · exact ⟨(nI np, nI nd, ls, et, nI es, co, ca, upd pc p (pc p + 1), ra, rb, sp, mk, dp, fc, fa, fb, fm, sl, st, lf, su, pg, ss, ql, qs, qr, hd, fl, ek, ep, ev, er), (nI np, nI nd, ls, et, nI es, co, ca, upd pc p (pc p + 1), ra, rb, sp, mk, dp, sl, lf, su, ql, st, pn, ss, qs, qr, hd, fl, fc, fa, fb, fm, ek, ep, ev, er), sk_mk I, fun post h => sx_x5 hp hc ec o5 z h, fun post h => sy_s5 hp hc ec hl ht hsl hd0 o5 z h⟩
    · exact ⟨(nI np, nI nd, ls, et, nI es, co, ca, upd pc p (ca (p * 32 + c)), ra, rb, sp, mk, dp, fc, fa, fb, fm, sl, st, lf, su, pg, ss, ql, qs, qr, hd, fl, ek, ep, ev, er), (nI np, nI nd, ls, et, nI es, co, ca, upd pc p (ca (p * 32 + c)), ra, rb, sp, mk, dp, sl, lf, su, ql, st, pn, ss, qs, qr, hd, fl, fc, fa, fb, fm, ek, ep, ev, er), sk_mk I, fun post h => sx_x5b hp hc ec o5 z h, fun post h => sy_s5b hp hc ec hl ht hsl hd0 o5 z h⟩
  by_cases o9 : co (p * 32 + c) = 9
  · by_cases z : ca (p * 32 + c) ≤ 0
    · exact ⟨(nI np, nI nd, ls, et, nI es, co, ca, upd pc p (pc p + 1), upd ra p 0, rb, sp, mk, dp, fc, fa, fb, fm, sl, st, lf, su, pg, ss, ql, qs, qr, hd, fl, ek, ep, ev, er), (nI np, nI nd, ls, et, nI es, co, ca, upd pc p (pc p + 1), upd ra p 0, rb, sp, mk, dp, sl, lf, su, ql, st, pn, ss, qs, qr, hd, fl, fc, fa, fb, fm, ek, ep, ev, er), sk_mk I, fun post h => sx_x9b hp hc ec o9 z h, fun post h => sy_sN hp hc ec hl ht hsl hd0 o0 o4 o5 (Or.inr z) (o9 ▸ sy_t9 hp h)⟩
    · exact ⟨(nI np, nI nd, ls, et, nI es, co, ca, pc, ra, rb, sp, mk, dp, fc, fa, fb, fm, upd sl p (ca (p * 32 + c)), st, lf, su, pg, ss, ql, qs, qr, hd, fl, ek, ep, ev, er), (nI np, nI nd, ls, et, nI es, co, ca, pc, ra, rb, sp, mk, dp, upd sl p (ca (p * 32 + c)), lf, su, ql, st, pn, ss, qs, qr, hd, fl, fc, fa, fb, fm, ek, ep, ev, er), sk_mk (sk_I_sl (Int32.le_of_lt (Int32.not_le.mp z)) I), fun post h => sx_x9 hp hc ec o9 z h, fun post h => sy_s9 hp hc ec hl ht hsl hd0 o9 z h⟩
  have sN : ∀ post : Int32 → SY → Prop, wY_step_251 post (nI p) (co (p * 32 + c)) (ca (p * 32 + c)) (nI np) (nI nd) ls et (nI es) co ca pc ra rb sp mk dp sl lf su ql st pn ss qs qr hd fl fc fa fb fm ek ep ev er → wpY_step post (nI np, nI nd, ls, et, nI es, co, ca, pc, ra, rb, sp, mk, dp, sl, lf, su, ql, st, pn, ss, qs, qr, hd, fl, fc, fa, fb, fm, ek, ep, ev, er) (nI p) := fun post h => sy_sN hp hc ec hl ht hsl hd0 o0 o4 o5 (Or.inl o9) h
  by_cases o1 : co (p * 32 + c) = 1
  · exact ⟨(nI np, nI nd, ls, et, nI es, co, ca, upd pc p (pc p + 1), upd ra p (ca (p * 32 + c)), rb, sp, mk, dp, fc, fa, fb, fm, sl, st, lf, su, pg, ss, ql, qs, qr, hd, fl, ek, ep, ev, er), (nI np, nI nd, ls, et, nI es, co, ca, upd pc p (pc p + 1), upd ra p (ca (p * 32 + c)), rb, sp, mk, dp, sl, lf, su, ql, st, pn, ss, qs, qr, hd, fl, fc, fa, fb, fm, ek, ep, ev, er), sk_mk I, fun post h => sx_x1 hp hc ec o1  h, fun post h => sN post (by rw [o1]; exact sy_t1 hp  h)⟩
  by_cases o2 : co (p * 32 + c) = 2
  · exact ⟨(nI np, nI nd, ls, et, nI es, co, ca, upd pc p (pc p + 1), ra, upd rb p (ca (p * 32 + c)), sp, mk, dp, fc, fa, fb, fm, sl, st, lf, su, pg, ss, ql, qs, qr, hd, fl, ek, ep, ev, er), (nI np, nI nd, ls, et, nI es, co, ca, upd pc p (pc p + 1), ra, upd rb p (ca (p * 32 + c)), sp, mk, dp, sl, lf, su, ql, st, pn, ss, qs, qr, hd, fl, fc, fa, fb, fm, ek, ep, ev, er), sk_mk I, fun post h => sx_x2 hp hc ec o2  h, fun post h => sN post (by rw [o2]; exact sy_t2 hp  h)⟩
  by_cases o3 : co (p * 32 + c) = 3
  · exact ⟨(nI np, nI nd, ls, et, nI es, co, ca, upd pc p (pc p + 1), upd ra p (ra p + ca (p * 32 + c)), rb, sp, mk, dp, fc, fa, fb, fm, sl, st, lf, su, pg, ss, ql, qs, qr, hd, fl, ek, ep, ev, er), (nI np, nI nd, ls, et, nI es, co, ca, upd pc p (pc p + 1), upd ra p (ra p + ca (p * 32 + c)), rb, sp, mk, dp, sl, lf, su, ql, st, pn, ss, qs, qr, hd, fl, fc, fa, fb, fm, ek, ep, ev, er), sk_mk I, fun post h => sx_x3 hp hc ec o3  h, fun post h => sN post (by rw [o3]; exact sy_t3 hp  h)⟩
  by_cases o6 : co (p * 32 + c) = 6
  · obtain ⟨r, u, v, R, hX, hY⟩ := sk_send (np := np) (nd := nd) (ls := ls) (et := et) (es := es) (co := co) (ca := ca) (pc := pc) (ra := ra) (rb := rb) (sp := sp) (mk := mk) (dp := dp) (fc := fc) (fa := fa) (fb := fb) (fm := fm) (sl := sl) (st := st) (lf := lf) (su := su) (pg := pg) (ss := ss) (ql := ql) (qs := qs) (qr := qr) (hd := hd) (fl := fl) (ek := ek) (ep := ep) (ev := ev) (er := er) (pn := pn) (rb p) (ca (p * 32 + c)) I
    obtain ⟨nd1, es1, ls1, et1, co1, ca1, pc1, ra1, rb1, sp1, mk1, dp1, fc1, fa1, fb1, fm1, sl1, st1, lf1, su1, pg1, pn1, ss1, ql1, qs1, qr1, hd1, fl1, ek1, ep1, ev1, er1, rfl, rfl, I1⟩ := R
    have e3 : vp_in (nI (p * 32 + c)) 128 := vp_in_nI (by omega) (by decide)
    have e4 : (nI (p * 32 + c)).toNatClampNeg = p * 32 + c := nI_clamp (by omega)
    have e5 : nI p * 32 + pc (nI p).toNatClampNeg = nI (p * 32 + c) := by rw [e2, ec, sk_ix32]
    have ho' : co (nI (p * 32 + c)).toNatClampNeg = 6 := by rw [e4]; exact o6
    have hk' : ca (nI (p * 32 + c)).toNatClampNeg = ca (p * 32 + c) := by rw [e4]
    by_cases y : lf1 p = 0
    · refine ⟨(nI np, nI nd1, ls1, et1, nI es1, co1, ca1, upd pc1 p (pc1 p + 1), upd ra1 p r, rb1, sp1, mk1, dp1, fc1, fa1, fb1, fm1, sl1, st1, lf1, su1, pg1, ss1, ql1, qs1, qr1, hd1, fl1, ek1, ep1, ev1, er1), (nI np, nI nd1, ls1, et1, nI es1, co1, ca1, upd pc1 p (pc1 p + 1), upd ra1 p r, rb1, sp1, mk1, dp1, sl1, lf1, su1, ql1, st1, pn1, ss1, qs1, qr1, hd1, fl1, fc1, fa1, fb1, fm1, ek1, ep1, ev1, er1), sk_mk I1, fun post h => ?_, fun post h => sN post ?_⟩
      · unfold wpX_execute
        refine ⟨e1, nm_r e5 ⟨e3, nm_r ho' ⟨e3, nm_r hk' (br_f (by decide) (br_f (by decide) (br_f (by decide) (br_f (by decide) (br_f (by decide) (br_f (by decide) (br_f (by decide) (br_f (by decide) (br_t rfl ⟨e1, ?_⟩)))))))))⟩⟩⟩
        rw [e2]
        refine hX _ ?_
        simp only [e1, e2, y, true_implies, false_implies, not_true_eq_false, not_false_eq_true, and_true, true_and, forall_eq, implies_true]
        exact h
      · rw [o6]
        unfold wY_step_251
        refine br_f (by decide) ?_
        unfold wY_step_356
        refine br_t rfl ⟨e1, ?_⟩
        rw [e2]
        refine hY _ ?_
        refine ⟨e1, br_t y ⟨e1, nm_e ?_⟩⟩
        exact sy_795 hp h
    · refine ⟨(nI np, nI nd1, ls1, et1, nI es1, co1, ca1, pc1, ra1, rb1, sp1, mk1, dp1, fc1, fa1, fb1, fm1, sl1, st1, lf1, su1, pg1, ss1, ql1, qs1, qr1, hd1, fl1, ek1, ep1, ev1, er1), (nI np, nI nd1, ls1, et1, nI es1, co1, ca1, pc1, ra1, rb1, sp1, mk1, dp1, sl1, lf1, su1, ql1, st1, pn1, ss1, qs1, qr1, hd1, fl1, fc1, fa1, fb1, fm1, ek1, ep1, ev1, er1), sk_mk I1, fun post h => ?_, fun post h => sN post ?_⟩
      · unfold wpX_execute
        refine ⟨e1, nm_r e5 ⟨e3, nm_r ho' ⟨e3, nm_r hk' (br_f (by decide) (br_f (by decide) (br_f (by decide) (br_f (by decide) (br_f (by decide) (br_f (by decide) (br_f (by decide) (br_f (by decide) (br_t rfl ⟨e1, ?_⟩)))))))))⟩⟩⟩
        rw [e2]
        refine hX _ ?_
        simp only [e1, e2, y, true_implies, false_implies, not_true_eq_false, not_false_eq_true, and_true, true_and, forall_eq, implies_true]
        exact h
      · rw [o6]
        unfold wY_step_251
        refine br_f (by decide) ?_
        unfold wY_step_356
        refine br_t rfl ⟨e1, ?_⟩
        rw [e2]
        refine hY _ ?_
        exact ⟨e1, br_f y h⟩
  by_cases o7 : co (p * 32 + c) = 7
  · by_cases k0 : ca (p * 32 + c) = 0
    · exact ⟨(nI np, nI nd, ls, et, nI es, co, ca, upd pc p (pc p + 1), upd ra p (mk p), rb, sp, upd mk p ((mk p ||| ra p) &&& (-33282)), dp, fc, fa, fb, fm, sl, st, lf, su, pg, ss, ql, qs, qr, hd, fl, ek, ep, ev, er), (nI np, nI nd, ls, et, nI es, co, ca, upd pc p (pc p + 1), upd ra p (mk p), rb, sp, upd mk p ((mk p ||| ra p) &&& (-33282)), dp, sl, lf, su, ql, st, pn, ss, qs, qr, hd, fl, fc, fa, fb, fm, ek, ep, ev, er), sk_mk (sk_I_mk (sk_clean _) I), fun post h => sx_x7a hp hc ec o7 k0 h, fun post h => sN post (by rw [o7]; exact sy_t7a hp k0 h)⟩
    by_cases k1 : ca (p * 32 + c) = 1
    · exact ⟨(nI np, nI nd, ls, et, nI es, co, ca, upd pc p (pc p + 1), upd ra p (mk p), rb, sp, upd mk p ((mk p &&& (ra p ^^^ (-1))) &&& (-33282)), dp, fc, fa, fb, fm, sl, st, lf, su, pg, ss, ql, qs, qr, hd, fl, ek, ep, ev, er), (nI np, nI nd, ls, et, nI es, co, ca, upd pc p (pc p + 1), upd ra p (mk p), rb, sp, upd mk p ((mk p &&& (ra p ^^^ (-1))) &&& (-33282)), dp, sl, lf, su, ql, st, pn, ss, qs, qr, hd, fl, fc, fa, fb, fm, ek, ep, ev, er), sk_mk (sk_I_mk (sk_clean _) I), fun post h => sx_x7b hp hc ec o7 k1 h, fun post h => sN post (by rw [o7]; exact sy_t7b hp k1 h)⟩
    by_cases k2 : ca (p * 32 + c) = 2
    · exact ⟨(nI np, nI nd, ls, et, nI es, co, ca, upd pc p (pc p + 1), upd ra p (mk p), rb, sp, upd mk p ((ra p) &&& (-33282)), dp, fc, fa, fb, fm, sl, st, lf, su, pg, ss, ql, qs, qr, hd, fl, ek, ep, ev, er), (nI np, nI nd, ls, et, nI es, co, ca, upd pc p (pc p + 1), upd ra p (mk p), rb, sp, upd mk p ((ra p) &&& (-33282)), dp, sl, lf, su, ql, st, pn, ss, qs, qr, hd, fl, fc, fa, fb, fm, ek, ep, ev, er), sk_mk (sk_I_mk (sk_clean _) I), fun post h => sx_x7c hp hc ec o7 k2 h, fun post h => sN post (by rw [o7]; exact sy_t7c hp k2 h)⟩
    exact ⟨(nI np, nI nd, ls, et, nI es, co, ca, upd pc p (pc p + 1), upd ra p (-22), rb, sp, mk, dp, fc, fa, fb, fm, sl, st, lf, su, pg, ss, ql, qs, qr, hd, fl, ek, ep, ev, er), (nI np, nI nd, ls, et, nI es, co, ca, upd pc p (pc p + 1), upd ra p (-22), rb, sp, mk, dp, sl, lf, su, ql, st, pn, ss, qs, qr, hd, fl, fc, fa, fb, fm, ek, ep, ev, er), sk_mk I, fun post h => sx_x7d hp hc ec o7 k0 k1 k2 h, fun post h => sN post (by rw [o7]; exact sy_t7d hp k0 k1 k2 h)⟩
  by_cases o8 : co (p * 32 + c) = 8
  · have e3 : vp_in (nI (p * 32 + c)) 128 := vp_in_nI (by omega) (by decide)
    have e4 : (nI (p * 32 + c)).toNatClampNeg = p * 32 + c := nI_clamp (by omega)
    have e5 : nI p * 32 + pc (nI p).toNatClampNeg = nI (p * 32 + c) := by rw [e2, ec, sk_ix32]
    have ho' : co (nI (p * 32 + c)).toNatClampNeg = 8 := by rw [e4]; exact o8
    have hk' : ca (nI (p * 32 + c)).toNatClampNeg = ca (p * 32 + c) := by rw [e4]
    rcases sk_cat (ca (p * 32 + c)) with hk | ⟨g, h1, hg, h9, h15, hk⟩
    · refine ⟨(nI np, nI nd, ls, et, nI es, co, ca, upd pc p (pc p + 1), upd ra p (-22), rb, sp, mk, dp, fc, fa, fb, fm, sl, st, lf, su, pg, ss, ql, qs, qr, hd, fl, ek, ep, ev, er), (nI np, nI nd, ls, et, nI es, co, ca, upd pc p (pc p + 1), upd ra p (-22), rb, sp, mk, dp, sl, lf, su, ql, st, pn, ss, qs, qr, hd, fl, fc, fa, fb, fm, ek, ep, ev, er), sk_mk I, fun post h => ?_, fun post h => sN post (by rw [o8]; exact sy_t8b hp (fun q hq => sy_ok0 hk hq) h)⟩
      · unfold wpX_execute
        refine ⟨e1, nm_r e5 ⟨e3, nm_r ho' ⟨e3, nm_r hk' (br_f (by decide) (br_f (by decide) (br_f (by decide) (br_f (by decide) (br_f (by decide) (br_f (by decide) (br_f (by decide) (br_f (by decide) (br_f (by decide) (br_f (by decide) (br_t rfl ⟨e1, e1, ?_⟩)))))))))))⟩⟩⟩
        rw [e2]
        refine sx_seta0 hp' hn hl hk ?_
        simp only [e1, e2, true_implies, false_implies, not_true_eq_false, not_false_eq_true, and_true, true_and, forall_eq, implies_true]
        exact h
    · rcases sk_hd (ra p) with hx | ⟨n1, n2, hx⟩
      · rw [hk] at hk'
        have hx' : ra p = -2 ∨ ra p = -1 ∨ 0 ≤ ra p := hx.imp_right fun z => z.imp_right fun ⟨j, hj, e⟩ => by rw [e]; exact nI_pos' (by omega)
        refine ⟨(nI np, nI nd, ls, et, nI es, co, ca, upd pc p (pc p + 1), upd ra p (hd (p * 32 + g)), rb, sp, mk, dp, fc, fa, fb, fm, sl, st, lf, su, pg, ss, ql, qs, qr, upd hd (p * 32 + g) (ra p), upd fl (p * 32 + g) (rb p &&& 7), ek, ep, ev, er), (nI np, nI nd, ls, et, nI es, co, ca, upd pc p (pc p + 1), upd ra p (hd (p * 32 + g)), rb, sp, mk, dp, sl, lf, su, ql, st, pn, ss, qs, qr, upd hd (p * 32 + g) (ra p), upd fl (p * 32 + g) (rb p &&& 7), fc, fa, fb, fm, ek, ep, ev, er), sk_mk (sk_I_hd hx' I), fun post h => ?_, fun post h => sN post (by rw [o8, hk]; exact sy_t8 hp h1 hg h9 h15 hx h)⟩
        unfold wpX_execute
        refine ⟨e1, nm_r e5 ⟨e3, nm_r ho' ⟨e3, nm_r hk' (br_f (by decide) (br_f (by decide) (br_f (by decide) (br_f (by decide) (br_f (by decide) (br_f (by decide) (br_f (by decide) (br_f (by decide) (br_f (by decide) (br_f (by decide) (br_t rfl ⟨e1, e1, ?_⟩)))))))))))⟩⟩⟩
        rw [e2]
        refine sx_seta1 hp' hn hl h1 hg h9 h15 hx ?_
        simp only [e1, e2, true_implies, false_implies, not_true_eq_false, not_false_eq_true, and_true, true_and, forall_eq, implies_true]
        exact h
      · rw [hk] at hk'
        refine ⟨(nI np, nI nd, ls, et, nI es, co, ca, upd pc p (pc p + 1), upd ra p (-22), rb, sp, mk, dp, fc, fa, fb, fm, sl, st, lf, su, pg, ss, ql, qs, qr, hd, fl, ek, ep, ev, er), (nI np, nI nd, ls, et, nI es, co, ca, upd pc p (pc p + 1), upd ra p (-22), rb, sp, mk, dp, sl, lf, su, ql, st, pn, ss, qs, qr, hd, fl, fc, fa, fb, fm, ek, ep, ev, er), sk_mk I, fun post h => ?_, fun post h => sN post (by rw [o8, hk]; exact sy_t8b hp (fun q hq => sy_ok2 h1 hg h9 h15 n1 n2 hx hq) h)⟩
        unfold wpX_execute
        refine ⟨e1, nm_r e5 ⟨e3, nm_r ho' ⟨e3, nm_r hk' (br_f (by decide) (br_f (by decide) (br_f (by decide) (br_f (by decide) (br_f (by decide) (br_f (by decide) (br_f (by decide) (br_f (by decide) (br_f (by decide) (br_f (by decide) (br_t rfl ⟨e1, e1, ?_⟩)))))))))))⟩⟩⟩
        rw [e2]
        refine sx_seta2 hp' hn hl h1 hg h9 h15 n1 n2 hx ?_
        simp only [e1, e2, true_implies, false_implies, not_true_eq_false, not_false_eq_true, and_true, true_and, forall_eq, implies_true]
        exact h
  by_cases o10 : co (p * 32 + c) = 10
  · obtain ⟨d', hd4, ed⟩ := I.2.2.2.2.2.1 p hp
    have hf := I.2.2.2.2.2.2.2.2.2.2
    cases d' with
    | zero =>
      exact ⟨(nI np, nI nd, ls, et, nI es, co, ca, upd pc p (pc p + 1), upd ra p (-22), rb, sp, mk, dp, fc, fa, fb, fm, sl, st, lf, su, pg, ss, ql, qs, qr, hd, fl, ek, ep, ev, er), (nI np, nI nd, ls, et, nI es, co, ca, upd pc p (pc p + 1), upd ra p (-22), rb, sp, mk, dp, sl, lf, su, ql, st, pn, ss, qs, qr, hd, fl, fc, fa, fb, fm, ek, ep, ev, er), sk_mk I, fun post h => sx_x10b hp hc ec o10 ed h, fun post h => sN post (by rw [o10]; exact sy_t10b hp ed h)⟩
    | succ d =>
      exact ⟨(nI np, nI nd, ls, et, nI es, co, ca, upd pc p (fc (p * 4 + d)), upd ra p (fa (p * 4 + d)), upd rb p (fb (p * 4 + d)), upd sp p (sp p + 4), upd mk p (fm (p * 4 + d)), upd dp p (nI d), fc, fa, fb, fm, sl, st, lf, su, pg, ss, ql, qs, qr, hd, fl, ek, ep, ev, er), (nI np, nI nd, ls, et, nI es, co, ca, upd pc p (fc (p * 4 + d)), upd ra p (fa (p * 4 + d)), upd rb p (fb (p * 4 + d)), upd sp p (sp p + 4), upd mk p (fm (p * 4 + d)), upd dp p (nI d), sl, lf, su, ql, st, pn, ss, qs, qr, hd, fl, fc, fa, fb, fm, ek, ep, ev, er), sk_mk (sk_I_mk (hf _) (sk_I_dp (by omega) I)), fun post h => sx_x10 hp hc ec o10 hd4 ed h, fun post h => sN post (by rw [o10]; exact sy_t10 hp hd4 ed (hf _) h)⟩
  by_cases o11 : co (p * 32 + c) = 11
  · exact ⟨(nI np, nI nd, ls, et + 1, nI (sk_lgN es), co, ca, upd pc p (pc p + 1), ra, rb, sp, mk, dp, fc, fa, fb, fm, sl, st, lf, su, pg, ss, ql, qs, qr, hd, fl, sk_lgA ek es 6, sk_lgA ep es (nI p), sk_lgA ev es (ra p), sk_lgA er es 0), (nI np, nI nd, ls, et + 1, nI (sk_lgN es), co, ca, upd pc p (pc p + 1), ra, rb, sp, mk, dp, sl, lf, su, ql, st, pn, ss, qs, qr, hd, fl, fc, fa, fb, fm, sk_lgA ek es 6, sk_lgA ep es (nI p), sk_lgA ev es (ra p), sk_lgA er es 0), sk_mk (sk_I_log I), fun post h => sx_x11 hp hc ec o11 hs h, fun post h => sN post (by rw [o11]; exact sy_t11 hp hs h)⟩
  by_cases o12 : co (p * 32 + c) = 12
  · exact ⟨(nI np, nI nd, ls, et, nI es, co, ca, upd pc p (pc p + 1), ra, upd rb p (nI p), sp, mk, dp, fc, fa, fb, fm, sl, st, lf, su, pg, ss, ql, qs, qr, hd, fl, ek, ep, ev, er), (nI np, nI nd, ls, et, nI es, co, ca, upd pc p (pc p + 1), ra, upd rb p (nI p), sp, mk, dp, sl, lf, su, ql, st, pn, ss, qs, qr, hd, fl, fc, fa, fb, fm, ek, ep, ev, er), sk_mk I, fun post h => sx_x12 hp hc ec o12  h, fun post h => sN post (by rw [o12]; exact sy_t12 hp  h)⟩
  by_cases o13 : co (p * 32 + c) = 13
  · obtain ⟨l, hl8, el, _⟩ := I.2.2.2.2.2.2.1 p hp
    exact ⟨(nI np, nI nd, ls, et, nI es, co, ca, upd pc p (pc p + 1), upd ra p (sk_orq (pg p) qs (p * 8) l), rb, sp, mk, dp, fc, fa, fb, fm, sl, st, lf, su, pg, ss, ql, qs, qr, hd, fl, ek, ep, ev, er), (nI np, nI nd, ls, et, nI es, co, ca, upd pc p (pc p + 1), upd ra p (sk_orq (pg p) qs (p * 8) l), rb, sp, mk, dp, sl, lf, su, ql, st, pn, ss, qs, qr, hd, fl, fc, fa, fb, fm, ek, ep, ev, er), sk_mk I, fun post h => sx_x13 hp hc ec o13 hl8 el h, fun post h => sN post (by rw [o13]; exact sy_t13 hp hl8 el (I.2.2.2.1 p hp) h)⟩
  by_cases o14 : co (p * 32 + c) = 14
  · exact ⟨(nI np, nI nd, ls, et, nI es, co, ca, upd pc p (pc p + 1), upd ra p (rb p), upd rb p (ra p), sp, mk, dp, fc, fa, fb, fm, sl, st, lf, su, pg, ss, ql, qs, qr, hd, fl, ek, ep, ev, er), (nI np, nI nd, ls, et, nI es, co, ca, upd pc p (pc p + 1), upd ra p (rb p), upd rb p (ra p), sp, mk, dp, sl, lf, su, ql, st, pn, ss, qs, qr, hd, fl, fc, fa, fb, fm, ek, ep, ev, er), sk_mk I, fun post h => sx_x14 hp hc ec o14  h, fun post h => sN post (by rw [o14]; exact sy_t14 hp  h)⟩
  exact ⟨(nI np, nI nd, ls, et, nI es, co, ca, upd pc p (pc p + 1), ra, rb, sp, mk, dp, fc, fa, fb, fm, sl, st, lf, su, pg, ss, ql, qs, qr, hd, fl, ek, ep, ev, er), (nI np, nI nd, ls, et, nI es, co, ca, upd pc p (pc p + 1), ra, rb, sp, mk, dp, sl, lf, su, ql, st, pn, ss, qs, qr, hd, fl, fc, fa, fb, fm, ek, ep, ev, er), sk_mk I, fun post h => sx_xN hp hc ec o0 o1 o2 o3 o4 o5 o6 o7 o8 o9 o10 o11 o12 o13 o14 h, fun post h => sN post (sy_tN hp o1 o2 o3 o6 o7 o8 o9 o10 o11 o12 o13 o14 h)⟩
theorem sk_step {p : Nat} (I : sk_Inv np nd es pg pn ss dp ql qs hd sl mk fm) (hp' : p < np) (hl : lf p = 0) (ht : st p = 0) : ∃ u v, sk_Rel np u v ∧ (∀ post : SX → Prop, post u → wpX_step post (nI np, nI nd, ls, et, nI es, co, ca, pc, ra, rb, sp, mk, dp, fc, fa, fb, fm, sl, st, lf, su, pg, ss, ql, qs, qr, hd, fl, ek, ep, ev, er) (nI p)) ∧ (∀ post : Int32 → SY → Prop, post 1 v → wpY_step post (nI np, nI nd, ls, et, nI es, co, ca, pc, ra, rb, sp, mk, dp, sl, lf, su, ql, st, pn, ss, qs, qr, hd, fl, fc, fa, fb, fm, ek, ep, ev, er) (nI p)) := by
  have hs := sk_I_es I
  have hn := sk_I_np I
  have hp : p < 4 := by omega
  have e1 : vp_in (nI p) 4 := vp_in_nI hp (by decide)
  have e2 : (nI p).toNatClampNeg = p := nI_clamp (by omega)
  rcases sk_deliver I hp with ⟨u, v, R, hX, hY⟩ | ⟨hX, hY⟩
  · obtain ⟨nd1, es1, ls1, et1, co1, ca1, pc1, ra1, rb1, sp1, mk1, dp1, fc1, fa1, fb1, fm1, sl1, st1, lf1, su1, pg1, pn1, ss1, ql1, qs1, qr1, hd1, fl1, ek1, ep1, ev1, er1, rfl, rfl, I1⟩ := R
    refine ⟨(nI np, nI nd1, ls1, et1, nI es1, co1, ca1, pc1, ra1, rb1, sp1, mk1, dp1, fc1, fa1, fb1, fm1, sl1, st1, lf1, su1, pg1, ss1, ql1, qs1, qr1, hd1, fl1, ek1, ep1, ev1, er1), (nI np, nI nd1, ls1, et1, nI es1, co1, ca1, pc1, ra1, rb1, sp1, mk1, dp1, sl1, lf1, su1, ql1, st1, pn1, ss1, qs1, qr1, hd1, fl1, fc1, fa1, fb1, fm1, ek1, ep1, ev1, er1), sk_mk I1, fun post h => ?_, fun post h => ?_⟩
    · unfold wpX_step
      exact hX _ (br_f (by decide) h)
    · unfold wpY_step
      exact ⟨e1, br_t (by rw [e2]; exact hl) ⟨e1, br_t (by rw [e2]; exact ht) (hY _ (br_f (by decide) h))⟩⟩
  · by_cases hsl : sl p ≤ 0
    · rcases pk_ix (pc p) (n := 32) (by decide) with hc | hc | ⟨c, hc, ec⟩
      · refine ⟨(nI np, nI nd, ls, et + 1, nI (sk_lgN es), co, ca, pc, ra, rb, sp, mk, dp, fc, fa, fb, fm, upd sl p 0, upd st p 0, upd lf p 4, upd su p 11, upd pg p 0, sk_clr ss (p * 16) 16, upd ql p 0, qs, qr, hd, fl, sk_lgA ek es 2, sk_lgA ep es (nI p), sk_lgA ev es 11, sk_lgA er es 0), (nI np, nI nd, ls, et + 1, nI (sk_lgN es), co, ca, pc, ra, rb, sp, mk, dp, upd sl p 0, upd lf p 4, upd su p 11, upd ql p 0, upd st p 0, sk_clr pn (p * 16) 16, sk_clr ss (p * 16) 16, qs, qr, hd, fl, fc, fa, fb, fm, sk_lgA ek es 2, sk_lgA ep es (nI p), sk_lgA ev es 11, sk_lgA er es 0), sk_mk (sk_I_log (sk_I_die I)), fun post h => ?_, fun post h => ?_⟩
        · unfold wpX_step
          refine hX _ (br_t rfl ⟨e1, br_t (by rw [e2]; exact hsl) ⟨e1, ?_⟩⟩)
          rw [e2]
          refine sx_cell0 (Or.inl hc) ?_
          refine br_t rfl ?_
          refine sx_term hp hs ?_
          exact h
        · unfold wpY_step
          refine ⟨e1, br_t (by rw [e2]; exact hl) ⟨e1, br_t (by rw [e2]; exact ht) (hY _ (br_t rfl ⟨e1, br_t (by rw [e2]; exact hsl) ⟨e1, br_t (by rw [e2]; exact hc) ?_⟩⟩))⟩⟩
          unfold wY_step_97
          refine sy_die hp ?_
          refine sy_log hs ?_
          exact h
      · refine ⟨(nI np, nI nd, ls, et + 1, nI (sk_lgN es), co, ca, pc, ra, rb, sp, mk, dp, fc, fa, fb, fm, upd sl p 0, upd st p 0, upd lf p 4, upd su p 11, upd pg p 0, sk_clr ss (p * 16) 16, upd ql p 0, qs, qr, hd, fl, sk_lgA ek es 2, sk_lgA ep es (nI p), sk_lgA ev es 11, sk_lgA er es 0), (nI np, nI nd, ls, et + 1, nI (sk_lgN es), co, ca, pc, ra, rb, sp, mk, dp, upd sl p 0, upd lf p 4, upd su p 11, upd ql p 0, upd st p 0, sk_clr pn (p * 16) 16, sk_clr ss (p * 16) 16, qs, qr, hd, fl, fc, fa, fb, fm, sk_lgA ek es 2, sk_lgA ep es (nI p), sk_lgA ev es 11, sk_lgA er es 0), sk_mk (sk_I_log (sk_I_die I)), fun post h => ?_, fun post h => ?_⟩
        · unfold wpX_step
          refine hX _ (br_t rfl ⟨e1, br_t (by rw [e2]; exact hsl) ⟨e1, ?_⟩⟩)
          rw [e2]
          refine sx_cell0 (Or.inr hc) ?_
          refine br_t rfl ?_
          refine sx_term hp hs ?_
          exact h
        · have hc0 : ¬ pc p < 0 := Int32.not_lt.mpr (Int32.le_trans (by decide) hc)
          have hc1 : ¬ pc p ≤ 31 := Int32.not_le.mpr (Int32.lt_of_lt_of_le (by decide) hc)
          unfold wpY_step
          refine ⟨e1, br_t (by rw [e2]; exact hl) ⟨e1, br_t (by rw [e2]; exact ht) (hY _ (br_t rfl ⟨e1, br_t (by rw [e2]; exact hsl) ⟨e1, br_f (by rw [e2]; exact hc0) ⟨e1, br_f (by rw [e2]; exact hc1) ?_⟩⟩⟩))⟩⟩
          unfold wY_step_97
          refine sy_die hp ?_
          refine sy_log hs ?_
          exact h
      · obtain ⟨u, v, R, hX', hY'⟩ := sk_exec I hp' hc ec hl ht hsl hY
        obtain ⟨nd1, es1, ls1, et1, co1, ca1, pc1, ra1, rb1, sp1, mk1, dp1, fc1, fa1, fb1, fm1, sl1, st1, lf1, su1, pg1, pn1, ss1, ql1, qs1, qr1, hd1, fl1, ek1, ep1, ev1, er1, rfl, rfl, I1⟩ := R
        refine ⟨(nI np, nI nd1, ls1, et1, nI es1, co1, ca1, pc1, ra1, rb1, sp1, mk1, dp1, fc1, fa1, fb1, fm1, sl1, st1, lf1, su1, pg1, ss1, ql1, qs1, qr1, hd1, fl1, ek1, ep1, ev1, er1), (nI np, nI nd1, ls1, et1, nI es1, co1, ca1, pc1, ra1, rb1, sp1, mk1, dp1, sl1, lf1, su1, ql1, st1, pn1, ss1, qs1, qr1, hd1, fl1, fc1, fa1, fb1, fm1, ek1, ep1, ev1, er1), sk_mk I1, fun post h => ?_, hY'⟩
        unfold wpX_step
        refine hX _ (br_t rfl ⟨e1, br_t (by rw [e2]; exact hsl) ⟨e1, ?_⟩⟩)
        rw [e2, ec]
        refine sx_cell1 hc ?_
        refine br_f (by decide) ?_
        exact hX' _ h
    · by_cases z : sl p - 1 = 0
      · refine ⟨(nI np, nI nd, ls, et, nI es, co, ca, upd pc p (pc p + 1), upd ra p 0, rb, sp, mk, dp, fc, fa, fb, fm, upd sl p (sl p - 1), st, lf, su, pg, ss, ql, qs, qr, hd, fl, ek, ep, ev, er), (nI np, nI nd, ls, et, nI es, co, ca, upd pc p (pc p + 1), upd ra p 0, rb, sp, mk, dp, upd sl p (sl p - 1), lf, su, ql, st, pn, ss, qs, qr, hd, fl, fc, fa, fb, fm, ek, ep, ev, er), sk_mk (sk_I_sl (sk_dec hsl) I), fun post h => ?_, fun post h => ?_⟩
        · unfold wpX_step
          refine hX _ (br_t rfl ⟨e1, br_f (by rw [e2]; exact hsl) ?_⟩)
          simp only [wpX_sleepOn, e1, e2, pk_us, z, true_implies, false_implies, not_true_eq_false, not_false_eq_true, and_true, true_and, forall_eq, implies_true]
          rw [z] at h
          exact h
        · unfold wpY_step
          refine ⟨e1, br_t (by rw [e2]; exact hl) ⟨e1, br_t (by rw [e2]; exact ht) (hY _ (br_t rfl ⟨e1, br_f (by rw [e2]; exact hsl) ?_⟩))⟩⟩
          simp only [e1, e2, pk_us, z, true_implies, false_implies, not_true_eq_false, not_false_eq_true, and_true, true_and, forall_eq, implies_true]
          rw [z] at h
          exact h
      · refine ⟨(nI np, nI nd, ls, et, nI es, co, ca, pc, ra, rb, sp, mk, dp, fc, fa, fb, fm, upd sl p (sl p - 1), st, lf, su, pg, ss, ql, qs, qr, hd, fl, ek, ep, ev, er), (nI np, nI nd, ls, et, nI es, co, ca, pc, ra, rb, sp, mk, dp, upd sl p (sl p - 1), lf, su, ql, st, pn, ss, qs, qr, hd, fl, fc, fa, fb, fm, ek, ep, ev, er), sk_mk (sk_I_sl (sk_dec hsl) I), fun post h => ?_, fun post h => ?_⟩
        · unfold wpX_step
          refine hX _ (br_t rfl ⟨e1, br_f (by rw [e2]; exact hsl) ?_⟩)
          simp only [wpX_sleepOn, e1, e2, pk_us, z, true_implies, false_implies, not_true_eq_false, not_false_eq_true, and_true, true_and, forall_eq, implies_true]
          exact h
        · unfold wpY_step
          refine ⟨e1, br_t (by rw [e2]; exact hl) ⟨e1, br_t (by rw [e2]; exact ht) (hY _ (br_t rfl ⟨e1, br_f (by rw [e2]; exact hsl) ?_⟩))⟩⟩
          simp only [e1, e2, pk_us, z, true_implies, false_implies, not_true_eq_false, not_false_eq_true, and_true, true_and, forall_eq, implies_true]
          exact h
end

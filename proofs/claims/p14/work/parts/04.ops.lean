section
variable {np nd es : Nat} {ls et : Int32} {co ca pc ra rb sp mk dp fc fa fb fm sl st lf su pg pn ss ql qs qr hd fl ek ep ev er : Nat → Int32}
theorem sx_x0 {post : St2 → Prop} {p c : Nat} (hp : p < 4) (hc : c < 32) (ec : pc p = nI c) (ho : co (p * 32 + c) = 0) (hs : es ≤ 128) (h : post (nI np, nI nd, ls, et + 1, nI (sk_lgN es), co, ca, pc, ra, rb, sp, mk, dp, fc, fa, fb, fm, upd sl p 0, upd st p 0, upd lf p 3, upd su p (ra p), upd pg p 0, sk_clr ss (p * 16) 16, upd ql p 0, qs, qr, hd, fl, sk_lgA ek es 7, sk_lgA ep es (nI p), sk_lgA ev es (ra p), sk_lgA er es 0)) : wpX_execute post (nI np, nI nd, ls, et, nI es, co, ca, pc, ra, rb, sp, mk, dp, fc, fa, fb, fm, sl, st, lf, su, pg, ss, ql, qs, qr, hd, fl, ek, ep, ev, er) (nI p) := by
  have e1 : vp_in (nI p) 4 := vp_in_nI hp (by decide)
  have e2 : (nI p).toNatClampNeg = p := nI_clamp (by omega)
  have e3 : vp_in (nI (p * 32 + c)) 128 := vp_in_nI (by omega) (by decide)
  have e4 : (nI (p * 32 + c)).toNatClampNeg = p * 32 + c := nI_clamp (by omega)
  have e5 : nI p * 32 + pc (nI p).toNatClampNeg = nI (p * 32 + c) := by rw [e2, ec, sk_ix32]
  have ho' : co (nI (p * 32 + c)).toNatClampNeg = 0 := by rw [e4]; exact ho
  have hk' : ca (nI (p * 32 + c)).toNatClampNeg = ca (p * 32 + c) := by rw [e4]
  unfold wpX_execute
  refine ⟨e1, nm_r e5 ⟨e3, nm_r ho' ⟨e3, nm_r hk' (br_f (by decide) (br_f (by decide) (br_t rfl ?_)))⟩⟩⟩
  simp only [e1, e2, true_implies, false_implies, not_true_eq_false, not_false_eq_true, and_true, true_and, forall_eq, implies_true]
  refine sx_die hp ?_
  refine sx_log hs ?_
  exact h
theorem sx_x4 {post : St2 → Prop} {p c : Nat} (hp : p < 4) (hc : c < 32) (ec : pc p = nI c) (ho : co (p * 32 + c) = 4) (h : post (nI np, nI nd, ls, et, nI es, co, ca, upd pc p (ca (p * 32 + c)), ra, rb, sp, mk, dp, fc, fa, fb, fm, sl, st, lf, su, pg, ss, ql, qs, qr, hd, fl, ek, ep, ev, er)) : wpX_execute post (nI np, nI nd, ls, et, nI es, co, ca, pc, ra, rb, sp, mk, dp, fc, fa, fb, fm, sl, st, lf, su, pg, ss, ql, qs, qr, hd, fl, ek, ep, ev, er) (nI p) := by
  have e1 : vp_in (nI p) 4 := vp_in_nI hp (by decide)
  have e2 : (nI p).toNatClampNeg = p := nI_clamp (by omega)
  have e3 : vp_in (nI (p * 32 + c)) 128 := vp_in_nI (by omega) (by decide)
  have e4 : (nI (p * 32 + c)).toNatClampNeg = p * 32 + c := nI_clamp (by omega)
  have e5 : nI p * 32 + pc (nI p).toNatClampNeg = nI (p * 32 + c) := by rw [e2, ec, sk_ix32]
  have ho' : co (nI (p * 32 + c)).toNatClampNeg = 4 := by rw [e4]; exact ho
  have hk' : ca (nI (p * 32 + c)).toNatClampNeg = ca (p * 32 + c) := by rw [e4]
  unfold wpX_execute
  refine ⟨e1, nm_r e5 ⟨e3, nm_r ho' ⟨e3, nm_r hk' (br_f (by decide) (br_f (by decide) (br_f (by decide) (br_f (by decide) (br_f (by decide) (br_f (by decide) (br_t rfl ?_)))))))⟩⟩⟩
  simp only [e1, e2, true_implies, false_implies, not_true_eq_false, not_false_eq_true, and_true, true_and, forall_eq, implies_true]
  exact h
theorem sx_x5 {post : St2 → Prop} {p c : Nat} (hp : p < 4) (hc : c < 32) (ec : pc p = nI c) (ho : co (p * 32 + c) = 5) (hz : ra p = 0) (h : post (nI np, nI nd, ls, et, nI es, co, ca, upd pc p (pc p + 1), ra, rb, sp, mk, dp, fc, fa, fb, fm, sl, st, lf, su, pg, ss, ql, qs, qr, hd, fl, ek, ep, ev, er)) : wpX_execute post (nI np, nI nd, ls, et, nI es, co, ca, pc, ra, rb, sp, mk, dp, fc, fa, fb, fm, sl, st, lf, su, pg, ss, ql, qs, qr, hd, fl, ek, ep, ev, er) (nI p) := by
  have e1 : vp_in (nI p) 4 := vp_in_nI hp (by decide)
  have e2 : (nI p).toNatClampNeg = p := nI_clamp (by omega)
  have e3 : vp_in (nI (p * 32 + c)) 128 := vp_in_nI (by omega) (by decide)
  have e4 : (nI (p * 32 + c)).toNatClampNeg = p * 32 + c := nI_clamp (by omega)
  have e5 : nI p * 32 + pc (nI p).toNatClampNeg = nI (p * 32 + c) := by rw [e2, ec, sk_ix32]
  have ho' : co (nI (p * 32 + c)).toNatClampNeg = 5 := by rw [e4]; exact ho
  have hk' : ca (nI (p * 32 + c)).toNatClampNeg = ca (p * 32 + c) := by rw [e4]
  unfold wpX_execute
  refine ⟨e1, nm_r e5 ⟨e3, nm_r ho' ⟨e3, nm_r hk' (br_f (by decide) (br_f (by decide) (br_f (by decide) (br_f (by decide) (br_f (by decide) (br_f (by decide) (br_f (by decide) (br_t rfl ?_))))))))⟩⟩⟩
  simp only [e1, e2, hz, true_implies, false_implies, not_true_eq_false, not_false_eq_true, and_true, true_and, forall_eq, implies_true]
  exact h
theorem sx_x5b {post : St2 → Prop} {p c : Nat} (hp : p < 4) (hc : c < 32) (ec : pc p = nI c) (ho : co (p * 32 + c) = 5) (hz : ¬ ra p = 0) (h : post (nI np, nI nd, ls, et, nI es, co, ca, upd pc p (ca (p * 32 + c)), ra, rb, sp, mk, dp, fc, fa, fb, fm, sl, st, lf, su, pg, ss, ql, qs, qr, hd, fl, ek, ep, ev, er)) : wpX_execute post (nI np, nI nd, ls, et, nI es, co, ca, pc, ra, rb, sp, mk, dp, fc, fa, fb, fm, sl, st, lf, su, pg, ss, ql, qs, qr, hd, fl, ek, ep, ev, er) (nI p) := by
  have e1 : vp_in (nI p) 4 := vp_in_nI hp (by decide)
  have e2 : (nI p).toNatClampNeg = p := nI_clamp (by omega)
  have e3 : vp_in (nI (p * 32 + c)) 128 := vp_in_nI (by omega) (by decide)
  have e4 : (nI (p * 32 + c)).toNatClampNeg = p * 32 + c := nI_clamp (by omega)
  have e5 : nI p * 32 + pc (nI p).toNatClampNeg = nI (p * 32 + c) := by rw [e2, ec, sk_ix32]
  have ho' : co (nI (p * 32 + c)).toNatClampNeg = 5 := by rw [e4]; exact ho
  have hk' : ca (nI (p * 32 + c)).toNatClampNeg = ca (p * 32 + c) := by rw [e4]
  unfold wpX_execute
  refine ⟨e1, nm_r e5 ⟨e3, nm_r ho' ⟨e3, nm_r hk' (br_f (by decide) (br_f (by decide) (br_f (by decide) (br_f (by decide) (br_f (by decide) (br_f (by decide) (br_f (by decide) (br_t rfl ?_))))))))⟩⟩⟩
  simp only [e1, e2, hz, true_implies, false_implies, not_true_eq_false, not_false_eq_true, and_true, true_and, forall_eq, implies_true]
  exact h
theorem sx_x9 {post : St2 → Prop} {p c : Nat} (hp : p < 4) (hc : c < 32) (ec : pc p = nI c) (ho : co (p * 32 + c) = 9) (hz : ¬ (ca (p * 32 + c)) ≤ 0) (h : post (nI np, nI nd, ls, et, nI es, co, ca, pc, ra, rb, sp, mk, dp, fc, fa, fb, fm, upd sl p (ca (p * 32 + c)), st, lf, su, pg, ss, ql, qs, qr, hd, fl, ek, ep, ev, er)) : wpX_execute post (nI np, nI nd, ls, et, nI es, co, ca, pc, ra, rb, sp, mk, dp, fc, fa, fb, fm, sl, st, lf, su, pg, ss, ql, qs, qr, hd, fl, ek, ep, ev, er) (nI p) := by
  have e1 : vp_in (nI p) 4 := vp_in_nI hp (by decide)
  have e2 : (nI p).toNatClampNeg = p := nI_clamp (by omega)
  have e3 : vp_in (nI (p * 32 + c)) 128 := vp_in_nI (by omega) (by decide)
  have e4 : (nI (p * 32 + c)).toNatClampNeg = p * 32 + c := nI_clamp (by omega)
  have e5 : nI p * 32 + pc (nI p).toNatClampNeg = nI (p * 32 + c) := by rw [e2, ec, sk_ix32]
  have ho' : co (nI (p * 32 + c)).toNatClampNeg = 9 := by rw [e4]; exact ho
  have hk' : ca (nI (p * 32 + c)).toNatClampNeg = ca (p * 32 + c) := by rw [e4]
  unfold wpX_execute
  refine ⟨e1, nm_r e5 ⟨e3, nm_r ho' ⟨e3, nm_r hk' (br_f (by decide) (br_f (by decide) (br_f (by decide) (br_f (by decide) (br_f (by decide) (br_f (by decide) (br_f (by decide) (br_f (by decide) (br_f (by decide) (br_f (by decide) (br_f (by decide) (br_t rfl ?_))))))))))))⟩⟩⟩
  simp only [wpX_fallAsleep, e1, e2, hz, true_implies, false_implies, not_true_eq_false, not_false_eq_true, and_true, true_and, forall_eq, implies_true]
  exact h
theorem sx_x9b {post : St2 → Prop} {p c : Nat} (hp : p < 4) (hc : c < 32) (ec : pc p = nI c) (ho : co (p * 32 + c) = 9) (hz : (ca (p * 32 + c)) ≤ 0) (h : post (nI np, nI nd, ls, et, nI es, co, ca, upd pc p (pc p + 1), upd ra p 0, rb, sp, mk, dp, fc, fa, fb, fm, sl, st, lf, su, pg, ss, ql, qs, qr, hd, fl, ek, ep, ev, er)) : wpX_execute post (nI np, nI nd, ls, et, nI es, co, ca, pc, ra, rb, sp, mk, dp, fc, fa, fb, fm, sl, st, lf, su, pg, ss, ql, qs, qr, hd, fl, ek, ep, ev, er) (nI p) := by
  have e1 : vp_in (nI p) 4 := vp_in_nI hp (by decide)
  have e2 : (nI p).toNatClampNeg = p := nI_clamp (by omega)
  have e3 : vp_in (nI (p * 32 + c)) 128 := vp_in_nI (by omega) (by decide)
  have e4 : (nI (p * 32 + c)).toNatClampNeg = p * 32 + c := nI_clamp (by omega)
  have e5 : nI p * 32 + pc (nI p).toNatClampNeg = nI (p * 32 + c) := by rw [e2, ec, sk_ix32]
  have ho' : co (nI (p * 32 + c)).toNatClampNeg = 9 := by rw [e4]; exact ho
  have hk' : ca (nI (p * 32 + c)).toNatClampNeg = ca (p * 32 + c) := by rw [e4]
  unfold wpX_execute
  refine ⟨e1, nm_r e5 ⟨e3, nm_r ho' ⟨e3, nm_r hk' (br_f (by decide) (br_f (by decide) (br_f (by decide) (br_f (by decide) (br_f (by decide) (br_f (by decide) (br_f (by decide) (br_f (by decide) (br_f (by decide) (br_f (by decide) (br_f (by decide) (br_t rfl ?_))))))))))))⟩⟩⟩
  simp only [wpX_fallAsleep, e1, e2, hz, true_implies, false_implies, not_true_eq_false, not_false_eq_true, and_true, true_and, forall_eq, implies_true]
  exact h
theorem sx_x10 {post : St2 → Prop} {p c : Nat} (hp : p < 4) (hc : c < 32) (ec : pc p = nI c) (ho : co (p * 32 + c) = 10) {d : Nat} (hd4 : d + 1 ≤ 4) (ed : dp p = nI (d + 1)) (h : post (nI np, nI nd, ls, et, nI es, co, ca, upd pc p (fc (p * 4 + d)), upd ra p (fa (p * 4 + d)), upd rb p (fb (p * 4 + d)), upd sp p (sp p + 4), upd mk p (fm (p * 4 + d)), upd dp p (nI d), fc, fa, fb, fm, sl, st, lf, su, pg, ss, ql, qs, qr, hd, fl, ek, ep, ev, er)) : wpX_execute post (nI np, nI nd, ls, et, nI es, co, ca, pc, ra, rb, sp, mk, dp, fc, fa, fb, fm, sl, st, lf, su, pg, ss, ql, qs, qr, hd, fl, ek, ep, ev, er) (nI p) := by
  have e1 : vp_in (nI p) 4 := vp_in_nI hp (by decide)
  have e2 : (nI p).toNatClampNeg = p := nI_clamp (by omega)
  have e3 : vp_in (nI (p * 32 + c)) 128 := vp_in_nI (by omega) (by decide)
  have e4 : (nI (p * 32 + c)).toNatClampNeg = p * 32 + c := nI_clamp (by omega)
  have e5 : nI p * 32 + pc (nI p).toNatClampNeg = nI (p * 32 + c) := by rw [e2, ec, sk_ix32]
  have ho' : co (nI (p * 32 + c)).toNatClampNeg = 10 := by rw [e4]; exact ho
  have hk' : ca (nI (p * 32 + c)).toNatClampNeg = ca (p * 32 + c) := by rw [e4]
  unfold wpX_execute
  refine ⟨e1, nm_r e5 ⟨e3, nm_r ho' ⟨e3, nm_r hk' (br_f (by decide) (br_f (by decide) (br_f (by decide) (br_f (by decide) (br_f (by decide) (br_f (by decide) (br_f (by decide) (br_f (by decide) (br_f (by decide) (br_f (by decide) (br_f (by decide) (br_f (by decide) (br_t rfl ?_)))))))))))))⟩⟩⟩
  have z : ¬ nI (d + 1) ≤ 0 := nI_nle (by omega) (by omega)
  have e6 : vp_in (nI (p * 4 + d)) 16 := vp_in_nI (by omega) (by decide)
  have e7 : (nI (p * 4 + d)).toNatClampNeg = p * 4 + d := nI_clamp (by omega)
  simp only [wpX_returnFromHandler, wpX_popFrame, e1, e2, ed, z, nI_pred, pk_us, sk_ix4, e6, e7, true_implies, false_implies, not_true_eq_false, not_false_eq_true, and_true, true_and, forall_eq, implies_true]
  exact h
theorem sx_x10b {post : St2 → Prop} {p c : Nat} (hp : p < 4) (hc : c < 32) (ec : pc p = nI c) (ho : co (p * 32 + c) = 10) (ed : dp p = 0) (h : post (nI np, nI nd, ls, et, nI es, co, ca, upd pc p (pc p + 1), upd ra p (-22), rb, sp, mk, dp, fc, fa, fb, fm, sl, st, lf, su, pg, ss, ql, qs, qr, hd, fl, ek, ep, ev, er)) : wpX_execute post (nI np, nI nd, ls, et, nI es, co, ca, pc, ra, rb, sp, mk, dp, fc, fa, fb, fm, sl, st, lf, su, pg, ss, ql, qs, qr, hd, fl, ek, ep, ev, er) (nI p) := by
  have e1 : vp_in (nI p) 4 := vp_in_nI hp (by decide)
  have e2 : (nI p).toNatClampNeg = p := nI_clamp (by omega)
  have e3 : vp_in (nI (p * 32 + c)) 128 := vp_in_nI (by omega) (by decide)
  have e4 : (nI (p * 32 + c)).toNatClampNeg = p * 32 + c := nI_clamp (by omega)
  have e5 : nI p * 32 + pc (nI p).toNatClampNeg = nI (p * 32 + c) := by rw [e2, ec, sk_ix32]
  have ho' : co (nI (p * 32 + c)).toNatClampNeg = 10 := by rw [e4]; exact ho
  have hk' : ca (nI (p * 32 + c)).toNatClampNeg = ca (p * 32 + c) := by rw [e4]
  unfold wpX_execute
  refine ⟨e1, nm_r e5 ⟨e3, nm_r ho' ⟨e3, nm_r hk' (br_f (by decide) (br_f (by decide) (br_f (by decide) (br_f (by decide) (br_f (by decide) (br_f (by decide) (br_f (by decide) (br_f (by decide) (br_f (by decide) (br_f (by decide) (br_f (by decide) (br_f (by decide) (br_t rfl ?_)))))))))))))⟩⟩⟩
  have z : (0 : Int32) ≤ 0 := by decide
  simp only [wpX_returnFromHandler, e1, e2, ed, z, true_implies, false_implies, not_true_eq_false, not_false_eq_true, and_true, true_and, forall_eq, implies_true]
  exact h
theorem sx_x1 {post : St2 → Prop} {p c : Nat} (hp : p < 4) (hc : c < 32) (ec : pc p = nI c) (ho : co (p * 32 + c) = 1) (h : post (nI np, nI nd, ls, et, nI es, co, ca, upd pc p (pc p + 1), upd ra p (ca (p * 32 + c)), rb, sp, mk, dp, fc, fa, fb, fm, sl, st, lf, su, pg, ss, ql, qs, qr, hd, fl, ek, ep, ev, er)) : wpX_execute post (nI np, nI nd, ls, et, nI es, co, ca, pc, ra, rb, sp, mk, dp, fc, fa, fb, fm, sl, st, lf, su, pg, ss, ql, qs, qr, hd, fl, ek, ep, ev, er) (nI p) := by
  have e1 : vp_in (nI p) 4 := vp_in_nI hp (by decide)
  have e2 : (nI p).toNatClampNeg = p := nI_clamp (by omega)
  have e3 : vp_in (nI (p * 32 + c)) 128 := vp_in_nI (by omega) (by decide)
  have e4 : (nI (p * 32 + c)).toNatClampNeg = p * 32 + c := nI_clamp (by omega)
  have e5 : nI p * 32 + pc (nI p).toNatClampNeg = nI (p * 32 + c) := by rw [e2, ec, sk_ix32]
  have ho' : co (nI (p * 32 + c)).toNatClampNeg = 1 := by rw [e4]; exact ho
  have hk' : ca (nI (p * 32 + c)).toNatClampNeg = ca (p * 32 + c) := by rw [e4]
  unfold wpX_execute
  refine ⟨e1, nm_r e5 ⟨e3, nm_r ho' ⟨e3, nm_r hk' (br_f (by decide) (br_f (by decide) (br_f (by decide) (br_t rfl ?_))))⟩⟩⟩
  unfold wX_execute_259 wpX_compute
  refine (br_f (by decide) (br_f (by decide) (br_t rfl ?_)))
  simp only [e1, e2, true_implies, false_implies, not_true_eq_false, not_false_eq_true, and_true, true_and, forall_eq, implies_true]
  exact h
theorem sx_x2 {post : St2 → Prop} {p c : Nat} (hp : p < 4) (hc : c < 32) (ec : pc p = nI c) (ho : co (p * 32 + c) = 2) (h : post (nI np, nI nd, ls, et, nI es, co, ca, upd pc p (pc p + 1), ra, upd rb p (ca (p * 32 + c)), sp, mk, dp, fc, fa, fb, fm, sl, st, lf, su, pg, ss, ql, qs, qr, hd, fl, ek, ep, ev, er)) : wpX_execute post (nI np, nI nd, ls, et, nI es, co, ca, pc, ra, rb, sp, mk, dp, fc, fa, fb, fm, sl, st, lf, su, pg, ss, ql, qs, qr, hd, fl, ek, ep, ev, er) (nI p) := by
  have e1 : vp_in (nI p) 4 := vp_in_nI hp (by decide)
  have e2 : (nI p).toNatClampNeg = p := nI_clamp (by omega)
  have e3 : vp_in (nI (p * 32 + c)) 128 := vp_in_nI (by omega) (by decide)
  have e4 : (nI (p * 32 + c)).toNatClampNeg = p * 32 + c := nI_clamp (by omega)
  have e5 : nI p * 32 + pc (nI p).toNatClampNeg = nI (p * 32 + c) := by rw [e2, ec, sk_ix32]
  have ho' : co (nI (p * 32 + c)).toNatClampNeg = 2 := by rw [e4]; exact ho
  have hk' : ca (nI (p * 32 + c)).toNatClampNeg = ca (p * 32 + c) := by rw [e4]
  unfold wpX_execute
  refine ⟨e1, nm_r e5 ⟨e3, nm_r ho' ⟨e3, nm_r hk' (br_f (by decide) (br_f (by decide) (br_f (by decide) (br_f (by decide) (br_t rfl ?_)))))⟩⟩⟩
  unfold wX_execute_259 wpX_compute
  refine (br_f (by decide) (br_f (by decide) (br_f (by decide) (br_t rfl ?_))))
  simp only [e1, e2, true_implies, false_implies, not_true_eq_false, not_false_eq_true, and_true, true_and, forall_eq, implies_true]
  exact h
theorem sx_x3 {post : St2 → Prop} {p c : Nat} (hp : p < 4) (hc : c < 32) (ec : pc p = nI c) (ho : co (p * 32 + c) = 3) (h : post (nI np, nI nd, ls, et, nI es, co, ca, upd pc p (pc p + 1), upd ra p (ra p + ca (p * 32 + c)), rb, sp, mk, dp, fc, fa, fb, fm, sl, st, lf, su, pg, ss, ql, qs, qr, hd, fl, ek, ep, ev, er)) : wpX_execute post (nI np, nI nd, ls, et, nI es, co, ca, pc, ra, rb, sp, mk, dp, fc, fa, fb, fm, sl, st, lf, su, pg, ss, ql, qs, qr, hd, fl, ek, ep, ev, er) (nI p) := by
  have e1 : vp_in (nI p) 4 := vp_in_nI hp (by decide)
  have e2 : (nI p).toNatClampNeg = p := nI_clamp (by omega)
  have e3 : vp_in (nI (p * 32 + c)) 128 := vp_in_nI (by omega) (by decide)
  have e4 : (nI (p * 32 + c)).toNatClampNeg = p * 32 + c := nI_clamp (by omega)
  have e5 : nI p * 32 + pc (nI p).toNatClampNeg = nI (p * 32 + c) := by rw [e2, ec, sk_ix32]
  have ho' : co (nI (p * 32 + c)).toNatClampNeg = 3 := by rw [e4]; exact ho
  have hk' : ca (nI (p * 32 + c)).toNatClampNeg = ca (p * 32 + c) := by rw [e4]
  unfold wpX_execute
  refine ⟨e1, nm_r e5 ⟨e3, nm_r ho' ⟨e3, nm_r hk' (br_f (by decide) (br_f (by decide) (br_f (by decide) (br_f (by decide) (br_f (by decide) (br_t rfl ?_))))))⟩⟩⟩
  unfold wX_execute_259 wpX_compute
  refine (br_f (by decide) (br_f (by decide) (br_f (by decide) (br_f (by decide) (br_t rfl ?_)))))
  simp only [e1, e2, true_implies, false_implies, not_true_eq_false, not_false_eq_true, and_true, true_and, forall_eq, implies_true]
  exact h
theorem sx_x7a {post : St2 → Prop} {p c : Nat} (hp : p < 4) (hc : c < 32) (ec : pc p = nI c) (ho : co (p * 32 + c) = 7) (hk : (ca (p * 32 + c)) = 0) (h : post (nI np, nI nd, ls, et, nI es, co, ca, upd pc p (pc p + 1), upd ra p (mk p), rb, sp, upd mk p ((mk p ||| ra p) &&& (-33282)), dp, fc, fa, fb, fm, sl, st, lf, su, pg, ss, ql, qs, qr, hd, fl, ek, ep, ev, er)) : wpX_execute post (nI np, nI nd, ls, et, nI es, co, ca, pc, ra, rb, sp, mk, dp, fc, fa, fb, fm, sl, st, lf, su, pg, ss, ql, qs, qr, hd, fl, ek, ep, ev, er) (nI p) := by
  have e1 : vp_in (nI p) 4 := vp_in_nI hp (by decide)
  have e2 : (nI p).toNatClampNeg = p := nI_clamp (by omega)
  have e3 : vp_in (nI (p * 32 + c)) 128 := vp_in_nI (by omega) (by decide)
  have e4 : (nI (p * 32 + c)).toNatClampNeg = p * 32 + c := nI_clamp (by omega)
  have e5 : nI p * 32 + pc (nI p).toNatClampNeg = nI (p * 32 + c) := by rw [e2, ec, sk_ix32]
  have ho' : co (nI (p * 32 + c)).toNatClampNeg = 7 := by rw [e4]; exact ho
  have hk' : ca (nI (p * 32 + c)).toNatClampNeg = ca (p * 32 + c) := by rw [e4]
  unfold wpX_execute
  refine ⟨e1, nm_r e5 ⟨e3, nm_r ho' ⟨e3, nm_r hk' (br_f (by decide) (br_f (by decide) (br_f (by decide) (br_f (by decide) (br_f (by decide) (br_f (by decide) (br_f (by decide) (br_f (by decide) (br_f (by decide) (br_t rfl ?_))))))))))⟩⟩⟩
  unfold wX_execute_259 wpX_compute
  refine (br_f (by decide) (br_f (by decide) (br_f (by decide) (br_f (by decide) (br_f (by decide) (br_f (by decide) (br_f (by decide) (br_f (by decide) (br_t rfl ?_)))))))))
  rw [hk]
  unfold wpX_changeMask
  refine ⟨e1, nm_e (br_f (by decide) (br_f (by decide) (br_t rfl ⟨e1, nm_e ?_⟩)))⟩
  simp only [wX_changeMask_84, e1, e2, true_implies, false_implies, not_true_eq_false, not_false_eq_true, and_true, true_and, forall_eq, implies_true]
  exact h
theorem sx_x7b {post : St2 → Prop} {p c : Nat} (hp : p < 4) (hc : c < 32) (ec : pc p = nI c) (ho : co (p * 32 + c) = 7) (hk : (ca (p * 32 + c)) = 1) (h : post (nI np, nI nd, ls, et, nI es, co, ca, upd pc p (pc p + 1), upd ra p (mk p), rb, sp, upd mk p ((mk p &&& (ra p ^^^ (-1))) &&& (-33282)), dp, fc, fa, fb, fm, sl, st, lf, su, pg, ss, ql, qs, qr, hd, fl, ek, ep, ev, er)) : wpX_execute post (nI np, nI nd, ls, et, nI es, co, ca, pc, ra, rb, sp, mk, dp, fc, fa, fb, fm, sl, st, lf, su, pg, ss, ql, qs, qr, hd, fl, ek, ep, ev, er) (nI p) := by
  have e1 : vp_in (nI p) 4 := vp_in_nI hp (by decide)
  have e2 : (nI p).toNatClampNeg = p := nI_clamp (by omega)
  have e3 : vp_in (nI (p * 32 + c)) 128 := vp_in_nI (by omega) (by decide)
  have e4 : (nI (p * 32 + c)).toNatClampNeg = p * 32 + c := nI_clamp (by omega)
  have e5 : nI p * 32 + pc (nI p).toNatClampNeg = nI (p * 32 + c) := by rw [e2, ec, sk_ix32]
  have ho' : co (nI (p * 32 + c)).toNatClampNeg = 7 := by rw [e4]; exact ho
  have hk' : ca (nI (p * 32 + c)).toNatClampNeg = ca (p * 32 + c) := by rw [e4]
  unfold wpX_execute
  refine ⟨e1, nm_r e5 ⟨e3, nm_r ho' ⟨e3, nm_r hk' (br_f (by decide) (br_f (by decide) (br_f (by decide) (br_f (by decide) (br_f (by decide) (br_f (by decide) (br_f (by decide) (br_f (by decide) (br_f (by decide) (br_t rfl ?_))))))))))⟩⟩⟩
  unfold wX_execute_259 wpX_compute
  refine (br_f (by decide) (br_f (by decide) (br_f (by decide) (br_f (by decide) (br_f (by decide) (br_f (by decide) (br_f (by decide) (br_f (by decide) (br_t rfl ?_)))))))))
  rw [hk]
  unfold wpX_changeMask
  refine ⟨e1, nm_e (br_f (by decide) (br_f (by decide) (br_f (by decide) (br_t rfl ⟨e1, nm_e ?_⟩))))⟩
  simp only [wX_changeMask_84, e1, e2, true_implies, false_implies, not_true_eq_false, not_false_eq_true, and_true, true_and, forall_eq, implies_true]
  exact h
theorem sx_x7c {post : St2 → Prop} {p c : Nat} (hp : p < 4) (hc : c < 32) (ec : pc p = nI c) (ho : co (p * 32 + c) = 7) (hk : (ca (p * 32 + c)) = 2) (h : post (nI np, nI nd, ls, et, nI es, co, ca, upd pc p (pc p + 1), upd ra p (mk p), rb, sp, upd mk p ((ra p) &&& (-33282)), dp, fc, fa, fb, fm, sl, st, lf, su, pg, ss, ql, qs, qr, hd, fl, ek, ep, ev, er)) : wpX_execute post (nI np, nI nd, ls, et, nI es, co, ca, pc, ra, rb, sp, mk, dp, fc, fa, fb, fm, sl, st, lf, su, pg, ss, ql, qs, qr, hd, fl, ek, ep, ev, er) (nI p) := by
  have e1 : vp_in (nI p) 4 := vp_in_nI hp (by decide)
  have e2 : (nI p).toNatClampNeg = p := nI_clamp (by omega)
  have e3 : vp_in (nI (p * 32 + c)) 128 := vp_in_nI (by omega) (by decide)
  have e4 : (nI (p * 32 + c)).toNatClampNeg = p * 32 + c := nI_clamp (by omega)
  have e5 : nI p * 32 + pc (nI p).toNatClampNeg = nI (p * 32 + c) := by rw [e2, ec, sk_ix32]
  have ho' : co (nI (p * 32 + c)).toNatClampNeg = 7 := by rw [e4]; exact ho
  have hk' : ca (nI (p * 32 + c)).toNatClampNeg = ca (p * 32 + c) := by rw [e4]
  unfold wpX_execute
  refine ⟨e1, nm_r e5 ⟨e3, nm_r ho' ⟨e3, nm_r hk' (br_f (by decide) (br_f (by decide) (br_f (by decide) (br_f (by decide) (br_f (by decide) (br_f (by decide) (br_f (by decide) (br_f (by decide) (br_f (by decide) (br_t rfl ?_))))))))))⟩⟩⟩
  unfold wX_execute_259 wpX_compute
  refine (br_f (by decide) (br_f (by decide) (br_f (by decide) (br_f (by decide) (br_f (by decide) (br_f (by decide) (br_f (by decide) (br_f (by decide) (br_t rfl ?_)))))))))
  rw [hk]
  unfold wpX_changeMask
  refine ⟨e1, nm_e (br_f (by decide) (br_f (by decide) (br_f (by decide) (br_f (by decide) (br_t rfl ⟨e1, nm_e ?_⟩)))))⟩
  simp only [wX_changeMask_84, e1, e2, true_implies, false_implies, not_true_eq_false, not_false_eq_true, and_true, true_and, forall_eq, implies_true]
  exact h
theorem sx_x7d {post : St2 → Prop} {p c : Nat} (hp : p < 4) (hc : c < 32) (ec : pc p = nI c) (ho : co (p * 32 + c) = 7) (k0 : ¬ (ca (p * 32 + c)) = 0) (k1 : ¬ (ca (p * 32 + c)) = 1) (k2 : ¬ (ca (p * 32 + c)) = 2) (h : post (nI np, nI nd, ls, et, nI es, co, ca, upd pc p (pc p + 1), upd ra p (-22), rb, sp, mk, dp, fc, fa, fb, fm, sl, st, lf, su, pg, ss, ql, qs, qr, hd, fl, ek, ep, ev, er)) : wpX_execute post (nI np, nI nd, ls, et, nI es, co, ca, pc, ra, rb, sp, mk, dp, fc, fa, fb, fm, sl, st, lf, su, pg, ss, ql, qs, qr, hd, fl, ek, ep, ev, er) (nI p) := by
  have e1 : vp_in (nI p) 4 := vp_in_nI hp (by decide)
  have e2 : (nI p).toNatClampNeg = p := nI_clamp (by omega)
  have e3 : vp_in (nI (p * 32 + c)) 128 := vp_in_nI (by omega) (by decide)
  have e4 : (nI (p * 32 + c)).toNatClampNeg = p * 32 + c := nI_clamp (by omega)
  have e5 : nI p * 32 + pc (nI p).toNatClampNeg = nI (p * 32 + c) := by rw [e2, ec, sk_ix32]
  have ho' : co (nI (p * 32 + c)).toNatClampNeg = 7 := by rw [e4]; exact ho
  have hk' : ca (nI (p * 32 + c)).toNatClampNeg = ca (p * 32 + c) := by rw [e4]
  unfold wpX_execute
  refine ⟨e1, nm_r e5 ⟨e3, nm_r ho' ⟨e3, nm_r hk' (br_f (by decide) (br_f (by decide) (br_f (by decide) (br_f (by decide) (br_f (by decide) (br_f (by decide) (br_f (by decide) (br_f (by decide) (br_f (by decide) (br_t rfl ?_))))))))))⟩⟩⟩
  unfold wX_execute_259 wpX_compute
  refine (br_f (by decide) (br_f (by decide) (br_f (by decide) (br_f (by decide) (br_f (by decide) (br_f (by decide) (br_f (by decide) (br_f (by decide) (br_t rfl ?_)))))))))
  unfold wpX_changeMask
  refine ⟨e1, nm_e (br_c (fun _ => ?_) fun _ => br_c (fun _ => ?_) fun _ => br_f k0 (br_f k1 (br_f k2 trivial)))⟩
  · simp only [e1, e2, true_implies, false_implies, not_true_eq_false, not_false_eq_true, and_true, true_and, forall_eq, implies_true]
    exact h
  · simp only [e1, e2, true_implies, false_implies, not_true_eq_false, not_false_eq_true, and_true, true_and, forall_eq, implies_true]
    exact h
theorem sx_x11 {post : St2 → Prop} {p c : Nat} (hp : p < 4) (hc : c < 32) (ec : pc p = nI c) (ho : co (p * 32 + c) = 11) (hs : es ≤ 128) (h : post (nI np, nI nd, ls, et + 1, nI (sk_lgN es), co, ca, upd pc p (pc p + 1), ra, rb, sp, mk, dp, fc, fa, fb, fm, sl, st, lf, su, pg, ss, ql, qs, qr, hd, fl, sk_lgA ek es 6, sk_lgA ep es (nI p), sk_lgA ev es (ra p), sk_lgA er es 0)) : wpX_execute post (nI np, nI nd, ls, et, nI es, co, ca, pc, ra, rb, sp, mk, dp, fc, fa, fb, fm, sl, st, lf, su, pg, ss, ql, qs, qr, hd, fl, ek, ep, ev, er) (nI p) := by
  have e1 : vp_in (nI p) 4 := vp_in_nI hp (by decide)
  have e2 : (nI p).toNatClampNeg = p := nI_clamp (by omega)
  have e3 : vp_in (nI (p * 32 + c)) 128 := vp_in_nI (by omega) (by decide)
  have e4 : (nI (p * 32 + c)).toNatClampNeg = p * 32 + c := nI_clamp (by omega)
  have e5 : nI p * 32 + pc (nI p).toNatClampNeg = nI (p * 32 + c) := by rw [e2, ec, sk_ix32]
  have ho' : co (nI (p * 32 + c)).toNatClampNeg = 11 := by rw [e4]; exact ho
  have hk' : ca (nI (p * 32 + c)).toNatClampNeg = ca (p * 32 + c) := by rw [e4]
  unfold wpX_execute
  refine ⟨e1, nm_r e5 ⟨e3, nm_r ho' ⟨e3, nm_r hk' (br_f (by decide) (br_t (by decide) ?_))⟩⟩⟩
  unfold wX_execute_259 wpX_compute
  refine (br_f (by decide) (br_f (by decide) (br_f (by decide) (br_f (by decide) (br_f (by decide) (br_f (by decide) (br_f (by decide) (br_f (by decide) (br_f (by decide) (br_f (by decide) (br_f (by decide) (br_f (by decide) (br_t rfl ?_)))))))))))))
  simp only [e1, e2, true_implies, false_implies, not_true_eq_false, not_false_eq_true, and_true, true_and, forall_eq, implies_true]
  refine sx_log hs ?_
  exact h
theorem sx_x12 {post : St2 → Prop} {p c : Nat} (hp : p < 4) (hc : c < 32) (ec : pc p = nI c) (ho : co (p * 32 + c) = 12) (h : post (nI np, nI nd, ls, et, nI es, co, ca, upd pc p (pc p + 1), ra, upd rb p (nI p), sp, mk, dp, fc, fa, fb, fm, sl, st, lf, su, pg, ss, ql, qs, qr, hd, fl, ek, ep, ev, er)) : wpX_execute post (nI np, nI nd, ls, et, nI es, co, ca, pc, ra, rb, sp, mk, dp, fc, fa, fb, fm, sl, st, lf, su, pg, ss, ql, qs, qr, hd, fl, ek, ep, ev, er) (nI p) := by
  have e1 : vp_in (nI p) 4 := vp_in_nI hp (by decide)
  have e2 : (nI p).toNatClampNeg = p := nI_clamp (by omega)
  have e3 : vp_in (nI (p * 32 + c)) 128 := vp_in_nI (by omega) (by decide)
  have e4 : (nI (p * 32 + c)).toNatClampNeg = p * 32 + c := nI_clamp (by omega)
  have e5 : nI p * 32 + pc (nI p).toNatClampNeg = nI (p * 32 + c) := by rw [e2, ec, sk_ix32]
  have ho' : co (nI (p * 32 + c)).toNatClampNeg = 12 := by rw [e4]; exact ho
  have hk' : ca (nI (p * 32 + c)).toNatClampNeg = ca (p * 32 + c) := by rw [e4]
  unfold wpX_execute
  refine ⟨e1, nm_r e5 ⟨e3, nm_r ho' ⟨e3, nm_r hk' (br_f (by decide) (br_t (by decide) ?_))⟩⟩⟩
  unfold wX_execute_259 wpX_compute
  refine (br_f (by decide) (br_f (by decide) (br_f (by decide) (br_f (by decide) (br_f (by decide) (br_f (by decide) (br_f (by decide) (br_f (by decide) (br_f (by decide) (br_f (by decide) (br_f (by decide) (br_f (by decide) (br_f (by decide) (br_t rfl ?_))))))))))))))
  simp only [e1, e2, true_implies, false_implies, not_true_eq_false, not_false_eq_true, and_true, true_and, forall_eq, implies_true]
  exact h
theorem sx_x13 {post : St2 → Prop} {p c : Nat} (hp : p < 4) (hc : c < 32) (ec : pc p = nI c) (ho : co (p * 32 + c) = 13) {l : Nat} (hl : l ≤ 8) (el : ql p = nI l) (h : post (nI np, nI nd, ls, et, nI es, co, ca, upd pc p (pc p + 1), upd ra p (sk_orq (pg p) qs (p * 8) l), rb, sp, mk, dp, fc, fa, fb, fm, sl, st, lf, su, pg, ss, ql, qs, qr, hd, fl, ek, ep, ev, er)) : wpX_execute post (nI np, nI nd, ls, et, nI es, co, ca, pc, ra, rb, sp, mk, dp, fc, fa, fb, fm, sl, st, lf, su, pg, ss, ql, qs, qr, hd, fl, ek, ep, ev, er) (nI p) := by
  have e1 : vp_in (nI p) 4 := vp_in_nI hp (by decide)
  have e2 : (nI p).toNatClampNeg = p := nI_clamp (by omega)
  have e3 : vp_in (nI (p * 32 + c)) 128 := vp_in_nI (by omega) (by decide)
  have e4 : (nI (p * 32 + c)).toNatClampNeg = p * 32 + c := nI_clamp (by omega)
  have e5 : nI p * 32 + pc (nI p).toNatClampNeg = nI (p * 32 + c) := by rw [e2, ec, sk_ix32]
  have ho' : co (nI (p * 32 + c)).toNatClampNeg = 13 := by rw [e4]; exact ho
  have hk' : ca (nI (p * 32 + c)).toNatClampNeg = ca (p * 32 + c) := by rw [e4]
  unfold wpX_execute
  refine ⟨e1, nm_r e5 ⟨e3, nm_r ho' ⟨e3, nm_r hk' (br_f (by decide) (br_t (by decide) ?_))⟩⟩⟩
  unfold wX_execute_259 wpX_compute
  refine (br_f (by decide) (br_f (by decide) (br_f (by decide) (br_f (by decide) (br_f (by decide) (br_f (by decide) (br_f (by decide) (br_f (by decide) (br_f (by decide) (br_f (by decide) (br_f (by decide) (br_f (by decide) (br_f (by decide) (br_f (by decide) (br_t rfl ?_)))))))))))))))
  refine sx_allp hp hl el ?_
  simp only [e1, e2, true_implies, false_implies, not_true_eq_false, not_false_eq_true, and_true, true_and, forall_eq, implies_true]
  exact h
theorem sx_x14 {post : St2 → Prop} {p c : Nat} (hp : p < 4) (hc : c < 32) (ec : pc p = nI c) (ho : co (p * 32 + c) = 14) (h : post (nI np, nI nd, ls, et, nI es, co, ca, upd pc p (pc p + 1), upd ra p (rb p), upd rb p (ra p), sp, mk, dp, fc, fa, fb, fm, sl, st, lf, su, pg, ss, ql, qs, qr, hd, fl, ek, ep, ev, er)) : wpX_execute post (nI np, nI nd, ls, et, nI es, co, ca, pc, ra, rb, sp, mk, dp, fc, fa, fb, fm, sl, st, lf, su, pg, ss, ql, qs, qr, hd, fl, ek, ep, ev, er) (nI p) := by
  have e1 : vp_in (nI p) 4 := vp_in_nI hp (by decide)
  have e2 : (nI p).toNatClampNeg = p := nI_clamp (by omega)
  have e3 : vp_in (nI (p * 32 + c)) 128 := vp_in_nI (by omega) (by decide)
  have e4 : (nI (p * 32 + c)).toNatClampNeg = p * 32 + c := nI_clamp (by omega)
  have e5 : nI p * 32 + pc (nI p).toNatClampNeg = nI (p * 32 + c) := by rw [e2, ec, sk_ix32]
  have ho' : co (nI (p * 32 + c)).toNatClampNeg = 14 := by rw [e4]; exact ho
  have hk' : ca (nI (p * 32 + c)).toNatClampNeg = ca (p * 32 + c) := by rw [e4]
  unfold wpX_execute
  refine ⟨e1, nm_r e5 ⟨e3, nm_r ho' ⟨e3, nm_r hk' (br_f (by decide) (br_t (by decide) ?_))⟩⟩⟩
  unfold wX_execute_259 wpX_compute
  refine (br_f (by decide) (br_f (by decide) (br_f (by decide) (br_f (by decide) (br_f (by decide) (br_f (by decide) (br_f (by decide) (br_f (by decide) (br_f (by decide) (br_f (by decide) (br_f (by decide) (br_f (by decide) (br_f (by decide) (br_f (by decide) (br_f (by decide) (br_t rfl ?_))))))))))))))))
  simp only [e1, e2, true_implies, false_implies, not_true_eq_false, not_false_eq_true, and_true, true_and, forall_eq, implies_true]
  exact h
theorem sx_xN {post : St2 → Prop} {p c : Nat} (hp : p < 4) (hc : c < 32) (ec : pc p = nI c) (n0 : ¬ co (p * 32 + c) = 0) (n1 : ¬ co (p * 32 + c) = 1) (n2 : ¬ co (p * 32 + c) = 2) (n3 : ¬ co (p * 32 + c) = 3) (n4 : ¬ co (p * 32 + c) = 4) (n5 : ¬ co (p * 32 + c) = 5) (n6 : ¬ co (p * 32 + c) = 6) (n7 : ¬ co (p * 32 + c) = 7) (n8 : ¬ co (p * 32 + c) = 8) (n9 : ¬ co (p * 32 + c) = 9) (n10 : ¬ co (p * 32 + c) = 10) (n11 : ¬ co (p * 32 + c) = 11) (n12 : ¬ co (p * 32 + c) = 12) (n13 : ¬ co (p * 32 + c) = 13) (n14 : ¬ co (p * 32 + c) = 14) (h : post (nI np, nI nd, ls, et, nI es, co, ca, upd pc p (pc p + 1), ra, rb, sp, mk, dp, fc, fa, fb, fm, sl, st, lf, su, pg, ss, ql, qs, qr, hd, fl, ek, ep, ev, er)) : wpX_execute post (nI np, nI nd, ls, et, nI es, co, ca, pc, ra, rb, sp, mk, dp, fc, fa, fb, fm, sl, st, lf, su, pg, ss, ql, qs, qr, hd, fl, ek, ep, ev, er) (nI p) := by
  have e1 : vp_in (nI p) 4 := vp_in_nI hp (by decide)
  have e2 : (nI p).toNatClampNeg = p := nI_clamp (by omega)
  have e3 : vp_in (nI (p * 32 + c)) 128 := vp_in_nI (by omega) (by decide)
  have e4 : (nI (p * 32 + c)).toNatClampNeg = p * 32 + c := nI_clamp (by omega)
  have e5 : nI p * 32 + pc (nI p).toNatClampNeg = nI (p * 32 + c) := by rw [e2, ec, sk_ix32]
  have ho' : co (nI (p * 32 + c)).toNatClampNeg = co (p * 32 + c) := by rw [e4]
  have hk' : ca (nI (p * 32 + c)).toNatClampNeg = ca (p * 32 + c) := by rw [e4]
  unfold wpX_execute
  refine ⟨e1, nm_r e5 ⟨e3, nm_r ho' ⟨e3, nm_r hk' ?_⟩⟩⟩
  · have H : wX_execute_259 post (nI p) (co (p * 32 + c)) (ca (p * 32 + c)) (nI np) (nI nd) ls et (nI es) co ca pc ra rb sp mk dp fc fa fb fm sl st lf su pg ss ql qs qr hd fl ek ep ev er := by
      have h' : vp_in (nI p) 4 ∧ (vp_in (nI p) 4 ∧ ∀ a_pc_44, a_pc_44 = upd pc (nI p).toNatClampNeg (pc (nI p).toNatClampNeg + 1) → post (nI np, nI nd, ls, et, nI es, co, ca, a_pc_44, ra, rb, sp, mk, dp, fc, fa, fb, fm, sl, st, lf, su, pg, ss, ql, qs, qr, hd, fl, ek, ep, ev, er)) := by
        simp only [e1, e2, true_implies, false_implies, not_true_eq_false, not_false_eq_true, and_true, true_and, forall_eq, implies_true]
        exact h
      unfold wX_execute_259 wpX_compute
      exact br_c (fun _ => h') fun _ => br_c (fun _ => h') fun _ => (br_f n1 (br_f n2 (br_f n3 (br_f n4 (br_f n5 (br_f n6 (br_f n7 (br_f n8 (br_f n9 (br_f n10 (br_f n11 (br_f n12 (br_f n13 (br_f n14 trivial))))))))))))))
    exact br_c (fun _ => H) fun _ => br_c (fun _ => H) fun _ => (br_f n0 (br_f n1 (br_f n2 (br_f n3 (br_f n4 (br_f n5 (br_f n6 (br_f n7 (br_f n8 (br_f n9 (br_f n10 trivial)))))))))))
end

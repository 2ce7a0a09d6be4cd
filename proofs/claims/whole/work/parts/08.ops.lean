section
variable {np nd es : Nat} {ls et : Int32} {co ca pc ra rb sp mk dp fc fa fb fm sl st lf su pg pn ss ql qs qr hd fl ek ep ev er : Nat → Int32}
theorem sx_x0 {post : SX → Prop} {p c : Nat} (hp : p < 4) (hc : c < 32) (ec : pc p = nI c) (ho : co (p * 32 + c) = 0) (hs : es ≤ 128) (h : post (nI np, nI nd, ls, et + 1, nI (sk_lgN es), co, ca, pc, ra, rb, sp, mk, dp, fc, fa, fb, fm, upd sl p 0, upd st p 0, upd lf p 3, upd su p (ra p), upd pg p 0, sk_clr ss (p * 16) 16, upd ql p 0, qs, qr, hd, fl, sk_lgA ek es 7, sk_lgA ep es (nI p), sk_lgA ev es (ra p), sk_lgA er es 0)) : wpX_execute post (nI np, nI nd, ls, et, nI es, co, ca, pc, ra, rb, sp, mk, dp, fc, fa, fb, fm, sl, st, lf, su, pg, ss, ql, qs, qr, hd, fl, ek, ep, ev, er) (nI p) := by
  have e1 : vp_in (nI p) 4 := vp_in_nI hp (by decide)
  have e2 : (nI p).toNatClampNeg = p := nI_clamp (by omega)
  have e3 : vp_in (nI (p * 32 + c)) 128 := vp_in_nI (by omega) (by decide)
  have e4 : (nI (p * 32 + c)).toNatClampNeg = p * 32 + c := nI_clamp (by omega)
  have e5 : nI p * 32 + pc (nI p).toNatClampNeg = nI (p * 32 + c) := by rw [e2, ec, sk_ix32]
  have ho' : co (nI (p * 32 + c)).toNatClampNeg = 0 := by rw [e4]; exact ho
  have hk' : ca (nI (p * 32 + c)).toNatClampNeg = ca (p * 32 + c) := by rw [e4]
  unfold wpX_execute
  refine ⟨e1, nm_r e5 ⟨e3, nm_r ho' ⟨e3, nm_r hk' (br_f (by decide) (br_f (by decide) (br_t rfl ?_)))⟩⟩⟩
  simp only [e1, e2, true_implies, false_implies, not_true_eq_false, not_false_eq_true, and_true, true_and, forall_eq, implies_true]
  refine sx_die hp ?_
  refine sx_log hs ?_
  exact h
theorem sx_x4 {post : SX → Prop} {p c : Nat} (hp : p < 4) (hc : c < 32) (ec : pc p = nI c) (ho : co (p * 32 + c) = 4) (h : post (nI np, nI nd, ls, et, nI es, co, ca, upd pc p (ca (p * 32 + c)), ra, rb, sp, mk, dp, fc, fa, fb, fm, sl, st, lf, su, pg, ss, ql, qs, qr, hd, fl, ek, ep, ev, er)) : wpX_execute post (nI np, nI nd, ls, et, nI es, co, ca, pc, ra, rb, sp, mk, dp, fc, fa, fb, fm, sl, st, lf, su, pg, ss, ql, qs, qr, hd, fl, ek, ep, ev, er) (nI p) := by
  have e1 : vp_in (nI p) 4 := vp_in_nI hp (by decide)
  have e2 : (nI p).toNatClampNeg = p := nI_clamp (by omega)
  have e3 : vp_in (nI (p * 32 + c)) 128 := vp_in_nI (by omega) (by decide)
  have e4 : (nI (p * 32 + c)).toNatClampNeg = p * 32 + c := nI_clamp (by omega)
  have e5 : nI p * 32 + pc (nI p).toNatClampNeg = nI (p * 32 + c) := by rw [e2, ec, sk_ix32]
  have ho' : co (nI (p * 32 + c)).toNatClampNeg = 4 := by rw [e4]; exact ho
  have hk' : ca (nI (p * 32 + c)).toNatClampNeg = ca (p * 32 + c) := by rw [e4]
  unfold wpX_execute
  refine ⟨e1, nm_r e5 ⟨e3, nm_r ho' ⟨e3, nm_r hk' (br_f (by decide) (br_f (by decide) (br_f (by decide) (br_f (by decide) (br_f (by decide) (br_f (by decide) (br_t rfl ?_)))))))⟩⟩⟩
  simp only [e1, e2, true_implies, false_implies, not_true_eq_false, not_false_eq_true, and_true, true_and, forall_eq, implies_true]
  exact h
theorem sx_x5 {post : SX → Prop} {p c : Nat} (hp : p < 4) (hc : c < 32) (ec : pc p = nI c) (ho : co (p * 32 + c) = 5) (hz : ra p = 0) (h : post (nI np, nI nd, ls, et, nI es, co, ca, upd pc p (pc p + 1), ra, rb, sp, mk, dp, fc, fa, fb, fm, sl, st, lf, su, pg, ss, ql, qs, qr, hd, fl, ek, ep, ev, er)) : wpX_execute post (nI np, nI nd, ls, et, nI es, co, ca, pc, ra, rb, sp, mk, dp, fc, fa, fb, fm, sl, st, lf, su, pg, ss, ql, qs, qr, hd, fl, ek, ep, ev, er) (nI p) := by
  have e1 : vp_in (nI p) 4 := vp_in_nI hp (by decide)
  have e2 : (nI p).toNatClampNeg = p := nI_clamp (by omega)
  have e3 : vp_in (nI (p * 32 + c)) 128 := vp_in_nI (by omega) (by decide)
  have e4 : (nI (p * 32 + c)).toNatClampNeg = p * 32 + c := nI_clamp (by omega)
  have e5 : nI p * 32 + pc (nI p).toNatClampNeg = nI (p * 32 + c) := by rw [e2, ec, sk_ix32]
  have ho' : co (nI (p * 32 + c)).toNatClampNeg = 5 := by rw [e4]; exact ho
  have hk' : ca (nI (p * 32 + c)).toNatClampNeg = ca (p * 32 + c) := by rw [e4]
  unfold wpX_execute
  refine ⟨e1, nm_r e5 ⟨e3, nm_r ho' ⟨e3, nm_r hk' (br_f (by decide) (br_f (by decide) (br_f (by decide) (br_f (by decide) (br_f (by decide) (br_f (by decide) (br_f (by decide) (br_t rfl ?_))))))))⟩⟩⟩
  simp only [e1, e2, hz, true_implies, false_implies, not_true_eq_false, not_false_eq_true, and_true, true_and, forall_eq, implies_true]
  exact h
theorem sx_x5b {post : SX → Prop} {p c : Nat} (hp : p < 4) (hc : c < 32) (ec : pc p = nI c) (ho : co (p * 32 + c) = 5) (hz : ¬ ra p = 0) (h : post (nI np, nI nd, ls, et, nI es, co, ca, upd pc p (ca (p * 32 + c)), ra, rb, sp, mk, dp, fc, fa, fb, fm, sl, st, lf, su, pg, ss, ql, qs, qr, hd, fl, ek, ep, ev, er)) : wpX_execute post (nI np, nI nd, ls, et, nI es, co, ca, pc, ra, rb, sp, mk, dp, fc, fa, fb, fm, sl, st, lf, su, pg, ss, ql, qs, qr, hd, fl, ek, ep, ev, er) (nI p) := by
  have e1 : vp_in (nI p) 4 := vp_in_nI hp (by decide)
  have e2 : (nI p).toNatClampNeg = p := nI_clamp (by omega)
  have e3 : vp_in (nI (p * 32 + c)) 128 := vp_in_nI (by omega) (by decide)
  have e4 : (nI (p * 32 + c)).toNatClampNeg = p * 32 + c := nI_clamp (by omega)
  have e5 : nI p * 32 + pc (nI p).toNatClampNeg = nI (p * 32 + c) := by rw [e2, ec, sk_ix32]
  have ho' : co (nI (p * 32 + c)).toNatClampNeg = 5 := by rw [e4]; exact ho
  have hk' : ca (nI (p * 32 + c)).toNatClampNeg = ca (p * 32 + c) := by rw [e4]
  unfold wpX_execute
  refine ⟨e1, nm_r e5 ⟨e3, nm_r ho' ⟨e3, nm_r hk' (br_f (by decide) (br_f (by decide) (br_f (by decide) (br_f (by decide) (br_f (by decide) (br_f (by decide) (br_f (by decide) (br_t rfl ?_))))))))⟩⟩⟩
  simp only [e1, e2, hz, true_implies, false_implies, not_true_eq_false, not_false_eq_true, and_true, true_and, forall_eq, implies_true]
  exact h
theorem sx_x9 {post : SX → Prop} {p c : Nat} (hp : p < 4) (hc : c < 32) (ec : pc p = nI c) (ho : co (p * 32 + c) = 9) (hz : ¬ (ca (p * 32 + c)) ≤ 0) (h : post (nI np, nI nd, ls, et, nI es, co, ca, pc, ra, rb, sp, mk, dp, fc, fa, fb, fm, upd sl p (ca (p * 32 + c)), st, lf, su, pg, ss, ql, qs, qr, hd, fl, ek, ep, ev, er)) : wpX_execute post (nI np, nI nd, ls, et, nI es, co, ca, pc, ra, rb, sp, mk, dp, fc, fa, fb, fm, sl, st, lf, su, pg, ss, ql, qs, qr, hd, fl, ek, ep, ev, er) (nI p) := by
  have e1 : vp_in (nI p) 4 := vp_in_nI hp (by decide)
  have e2 : (nI p).toNatClampNeg = p := nI_clamp (by omega)
  have e3 : vp_in (nI (p * 32 + c)) 128 := vp_in_nI (by omega) (by decide)
  have e4 : (nI (p * 32 + c)).toNatClampNeg = p * 32 + c := nI_clamp (by omega)
  have e5 : nI p * 32 + pc (nI p).toNatClampNeg = nI (p * 32 + c) := by rw [e2, ec, sk_ix32]
  have ho' : co (nI (p * 32 + c)).toNatClampNeg = 9 := by rw [e4]; exact ho
  have hk' : ca (nI (p * 32 + c)).toNatClampNeg = ca (p * 32 + c) := by rw [e4]
  unfold wpX_execute
  refine ⟨e1, nm_r e5 ⟨e3, nm_r ho' ⟨e3, nm_r hk' (br_f (by decide) (br_f (by decide) (br_f (by decide) (br_f (by decide) (br_f (by decide) (br_f (by decide) (br_f (by decide) (br_f (by decide) (br_f (by decide) (br_f (by decide) (br_f (by decide) (br_t rfl ?_))))))))))))⟩⟩⟩
  simp only [wpX_fallAsleep, e1, e2, hz, true_implies, false_implies, not_true_eq_false, not_false_eq_true, and_true, true_and, forall_eq, implies_true]
  exact h
theorem sx_x9b {post : SX → Prop} {p c : Nat} (hp : p < 4) (hc : c < 32) (ec : pc p = nI c) (ho : co (p * 32 + c) = 9) (hz : (ca (p * 32 + c)) ≤ 0) (h : post (nI np, nI nd, ls, et, nI es, co, ca, upd pc p (pc p + 1), upd ra p 0, rb, sp, mk, dp, fc, fa, fb, fm, sl, st, lf, su, pg, ss, ql, qs, qr, hd, fl, ek, ep, ev, er)) : wpX_execute post (nI np, nI nd, ls, et, nI es, co, ca, pc, ra, rb, sp, mk, dp, fc, fa, fb, fm, sl, st, lf, su, pg, ss, ql, qs, qr, hd, fl, ek, ep, ev, er) (nI p) := by
  have e1 : vp_in (nI p) 4 := vp_in_nI hp (by decide)
  have e2 : (nI p).toNatClampNeg = p := nI_clamp (by omega)
  have e3 : vp_in (nI (p * 32 + c)) 128 := vp_in_nI (by omega) (by decide)
  have e4 : (nI (p * 32 + c)).toNatClampNeg = p * 32 + c := nI_clamp (by omega)
  have e5 : nI p * 32 + pc (nI p).toNatClampNeg = nI (p * 32 + c) := by rw [e2, ec, sk_ix32]
  have ho' : co (nI (p * 32 + c)).toNatClampNeg = 9 := by rw [e4]; exact ho
  have hk' : ca (nI (p * 32 + c)).toNatClampNeg = ca (p * 32 + c) := by rw [e4]
  unfold wpX_execute
  refine ⟨e1, nm_r e5 ⟨e3, nm_r ho' ⟨e3, nm_r hk' (br_f (by decide) (br_f (by decide) (br_f (by decide) (br_f (by decide) (br_f (by decide) (br_f (by decide) (br_f (by decide) (br_f (by decide) (br_f (by decide) (br_f (by decide) (br_f (by decide) (br_t rfl ?_))))))))))))⟩⟩⟩
  simp only [wpX_fallAsleep, e1, e2, hz, true_implies, false_implies, not_true_eq_false, not_false_eq_true, and_true, true_and, forall_eq, implies_true]
  exact h
theorem sx_x10 {post : SX → Prop} {p c : Nat} (hp : p < 4) (hc : c < 32) (ec : pc p = nI c) (ho : co (p * 32 + c) = 10) {d : Nat} (hd4 : d + 1 ≤ 4) (ed : dp p = nI (d + 1)) (h : post (nI np, nI nd, ls, et, nI es, co, ca, upd pc p (fc (p * 4 + d)), upd ra p (fa (p * 4 + d)), upd rb p (fb (p * 4 + d)), upd sp p (sp p + 4), upd mk p (fm (p * 4 + d)), upd dp p (nI d), fc, fa, fb, fm, sl, st, lf, su, pg, ss, ql, qs, qr, hd, fl, ek, ep, ev, er)) : wpX_execute post (nI np, nI nd, ls, et, nI es, co, ca, pc, ra, rb, sp, mk, dp, fc, fa, fb, fm, sl, st, lf, su, pg, ss, ql, qs, qr, hd, fl, ek, ep, ev, er) (nI p) := by
  have e1 : vp_in (nI p) 4 := vp_in_nI hp (by decide)
  have e2 : (nI p).toNatClampNeg = p := nI_clamp (by omega)
  have e3 : vp_in (nI (p * 32 + c)) 128 := vp_in_nI (by omega) (by decide)
  have e4 : (nI (p * 32 + c)).toNatClampNeg = p * 32 + c := nI_clamp (by omega)
  have e5 : nI p * 32 + pc (nI p).toNatClampNeg = nI (p * 32 + c) := by rw [e2, ec, sk_ix32]
  have ho' : co (nI (p * 32 + c)).toNatClampNeg = 10 := by rw [e4]; exact ho
  have hk' : ca (nI (p * 32 + c)).toNatClampNeg = ca (p * 32 + c) := by rw [e4]
  unfold wpX_execute
  refine ⟨e1, nm_r e5 ⟨e3, nm_r ho' ⟨e3, nm_r hk' (br_f (by decide) (br_f (by decide) (br_f (by decide) (br_f (by decide) (br_f (by decide) (br_f (by decide) (br_f (by decide) (br_f (by decide) (br_f (by decide) (br_f (by decide) (br_f (by decide) (br_f (by decide) (br_t rfl ?_)))))))))))))⟩⟩⟩
  have z : ¬ nI (d + 1) ≤ 0 := nI_nle (by omega) (by omega)
  have e6 : vp_in (nI (p * 4 + d)) 16 := vp_in_nI (by omega) (by decide)
  have e7 : (nI (p * 4 + d)).toNatClampNeg = p * 4 + d := nI_clamp (by omega)
  simp only [wpX_returnFromHandler, wpX_popFrame, e1, e2, ed, z, nI_pred, pk_us, sk_ix4, e6, e7, true_implies, false_implies, not_true_eq_false, not_false_eq_true, and_true, true_and, forall_eq, implies_true]
  exact h
theorem sx_x10b {post : SX → Prop} {p c : Nat} (hp : p < 4) (hc : c < 32) (ec : pc p = nI c) (ho : co (p * 32 + c) = 10) (ed : dp p = 0) (h : post (nI np, nI nd, ls, et, nI es, co, ca, upd pc p (pc p + 1), upd ra p (-22), rb, sp, mk, dp, fc, fa, fb, fm, sl, st, lf, su, pg, ss, ql, qs, qr, hd, fl, ek, ep, ev, er)) : wpX_execute post (nI np, nI nd, ls, et, nI es, co, ca, pc, ra, rb, sp, mk, dp, fc, fa, fb, fm, sl, st, lf, su, pg, ss, ql, qs, qr, hd, fl, ek, ep, ev, er) (nI p) := by
  have e1 : vp_in (nI p) 4 := vp_in_nI hp (by decide)
  have e2 : (nI p).toNatClampNeg = p := nI_clamp (by omega)
  have e3 : vp_in (nI (p * 32 + c)) 128 := vp_in_nI (by omega) (by decide)
  have e4 : (nI (p * 32 + c)).toNatClampNeg = p * 32 + c := nI_clamp (by omega)
  have e5 : nI p * 32 + pc (nI p).toNatClampNeg = nI (p * 32 + c) := by rw [e2, ec, sk_ix32]
  have ho' : co (nI (p * 32 + c)).toNatClampNeg = 10 := by rw [e4]; exact ho
  have hk' : ca (nI (p * 32 + c)).toNatClampNeg = ca (p * 32 + c) := by rw [e4]
  unfold wpX_execute
  refine ⟨e1, nm_r e5 ⟨e3, nm_r ho' ⟨e3, nm_r hk' (br_f (by decide) (br_f (by decide) (br_f (by decide) (br_f (by decide) (br_f (by decide) (br_f (by decide) (br_f (by decide) (br_f (by decide) (br_f (by decide) (br_f (by decide) (br_f (by decide) (br_f (by decide) (br_t rfl ?_)))))))))))))⟩⟩⟩
  have z : (0 : Int32) ≤ 0 := by decide
  simp only [wpX_returnFromHandler, e1, e2, ed, z, true_implies, false_implies, not_true_eq_false, not_false_eq_true, and_true, true_and, forall_eq, implies_true]
  exact h
theorem sx_x1 {post : SX → Prop} {p c : Nat} (hp : p < 4) (hc : c < 32) (ec : pc p = nI c) (ho : co (p * 32 + c) = 1) (h : post (nI np, nI nd, ls, et, nI es, co, ca, upd pc p (pc p + 1), upd ra p (ca (p * 32 + c)), rb, sp, mk, dp, fc, fa, fb, fm, sl, st, lf, su, pg, ss, ql, qs, qr, hd, fl, ek, ep, ev, er)) : wpX_execute post (nI np, nI nd, ls, et, nI es, co, ca, pc, ra, rb, sp, mk, dp, fc, fa, fb, fm, sl, st, lf, su, pg, ss, ql, qs, qr, hd, fl, ek, ep, ev, er) (nI p) := by
  have e1 : vp_in (nI p) 4 := vp_in_nI hp (by decide)
  have e2 : (nI p).toNatClampNeg = p := nI_clamp (by omega)
  have e3 : vp_in (nI (p * 32 + c)) 128 := vp_in_nI (by omega) (by decide)
  have e4 : (nI (p * 32 + c)).toNatClampNeg = p * 32 + c := nI_clamp (by omega)
  have e5 : nI p * 32 + pc (nI p).toNatClampNeg = nI (p * 32 + c) := by rw [e2, ec, sk_ix32]
  have ho' : co (nI (p * 32 + c)).toNatClampNeg = 1 := by rw [e4]; exact ho
  have hk' : ca (nI (p * 32 + c)).toNatClampNeg = ca (p * 32 + c) := by rw [e4]
  unfold wpX_execute
  refine ⟨e1, nm_r e5 ⟨e3, nm_r ho' ⟨e3, nm_r hk' (br_f (by decide) (br_f (by decide) (br_f (by decide) (br_t rfl ?_))))⟩⟩⟩
  unfold wX_execute_259 wpX_compute
  refine (br_f (by decide) (br_f (by decide) (br_t rfl ?_)))
  simp only [e1, e2, true_implies, false_implies, not_true_eq_false, not_false_eq_true, and_true, true_and, forall_eq, implies_true]
  exact h
theorem sx_x2 {post : SX → Prop} {p c : Nat} (hp : p < 4) (hc : c < 32) (ec : pc p = nI c) (ho : co (p * 32 + c) = 2) (h : post (nI np, nI nd, ls, et, nI es, co, ca, upd pc p (pc p + 1), ra, upd rb p (ca (p * 32 + c)), sp, mk, dp, fc, fa, fb, fm, sl, st, lf, su, pg, ss, ql, qs, qr, hd, fl, ek, ep, ev, er)) : wpX_execute post (nI np, nI nd, ls, et, nI es, co, ca, pc, ra, rb, sp, mk, dp, fc, fa, fb, fm, sl, st, lf, su, pg, ss, ql, qs, qr, hd, fl, ek, ep, ev, er) (nI p) := by
  have e1 : vp_in (nI p) 4 := vp_in_nI hp (by decide)
  have e2 : (nI p).toNatClampNeg = p := nI_clamp (by omega)
  have e3 : vp_in (nI (p * 32 + c)) 128 := vp_in_nI (by omega) (by decide)
  have e4 : (nI (p * 32 + c)).toNatClampNeg = p * 32 + c := nI_clamp (by omega)
  have e5 : nI p * 32 + pc (nI p).toNatClampNeg = nI (p * 32 + c) := by rw [e2, ec, sk_ix32]
  have ho' : co (nI (p * 32 + c)).toNatClampNeg = 2 := by rw [e4]; exact ho
  have hk' : ca (nI (p * 32 + c)).toNatClampNeg = ca (p * 32 + c) := by rw [e4]
  unfold wpX_execute
  refine ⟨e1, nm_r e5 ⟨e3, nm_r ho' ⟨e3, nm_r hk' (br_f (by decide) (br_f (by decide) (br_f (by decide) (br_f (by decide) (br_t rfl ?_)))))⟩⟩⟩
  unfold wX_execute_259 wpX_compute
  refine (br_f (by decide) (br_f (by decide) (br_f (by decide) (br_t rfl ?_))))
  simp only [e1, e2, true_implies, false_implies, not_true_eq_false, not_false_eq_true, and_true, true_and, forall_eq, implies_true]
  exact h
theorem sx_x3 {post : SX → Prop} {p c : Nat} (hp : p < 4) (hc : c < 32) (ec : pc p = nI c) (ho : co (p * 32 + c) = 3) (h : post (nI np, nI nd, ls, et, nI es, co, ca, upd pc p (pc p + 1), upd ra p (ra p + ca (p * 32 + c)), rb, sp, mk, dp, fc, fa, fb, fm, sl, st, lf, su, pg, ss, ql, qs, qr, hd, fl, ek, ep, ev, er)) : wpX_execute post (nI np, nI nd, ls, et, nI es, co, ca, pc, ra, rb, sp, mk, dp, fc, fa, fb, fm, sl, st, lf, su, pg, ss, ql, qs, qr, hd, fl, ek, ep, ev, er) (nI p) := by
  have e1 : vp_in (nI p) 4 := vp_in_nI hp (by decide)
  have e2 : (nI p).toNatClampNeg = p := nI_clamp (by omega)
  have e3 : vp_in (nI (p * 32 + c)) 128 := vp_in_nI (by omega) (by decide)
  have e4 : (nI (p * 32 + c)).toNatClampNeg = p * 32 + c := nI_clamp (by omega)
  have e5 : nI p * 32 + pc (nI p).toNatClampNeg = nI (p * 32 + c) := by rw [e2, ec, sk_ix32]
  have ho' : co (nI (p * 32 + c)).toNatClampNeg = 3 := by rw [e4]; exact ho
  have hk' : ca (nI (p * 32 + c)).toNatClampNeg = ca (p * 32 + c) := by rw [e4]
  unfold wpX_execute
  refine ⟨e1, nm_r e5 ⟨e3, nm_r ho' ⟨e3, nm_r hk' (br_f (by decide) (br_f (by decide) (br_f (by decide) (br_f (by decide) (br_f (by decide) (br_t rfl ?_))))))⟩⟩⟩
  unfold wX_execute_259 wpX_compute
  refine (br_f (by decide) (br_f (by decide) (br_f (by decide) (br_f (by decide) (br_t rfl ?_)))))
  simp only [e1, e2, true_implies, false_implies, not_true_eq_false, not_false_eq_true, and_true, true_and, forall_eq, implies_true]
  exact h
theorem sx_x7a {post : SX → Prop} {p c : Nat} (hp : p < 4) (hc : c < 32) (ec : pc p = nI c) (ho : co (p * 32 + c) = 7) (hk : (ca (p * 32 + c)) = 0) (h : post (nI np, nI nd, ls, et, nI es, co, ca, upd pc p (pc p + 1), upd ra p (mk p), rb, sp, upd mk p ((mk p ||| ra p) &&& (-33282)), dp, fc, fa, fb, fm, sl, st, lf, su, pg, ss, ql, qs, qr, hd, fl, ek, ep, ev, er)) : wpX_execute post (nI np, nI nd, ls, et, nI es, co, ca, pc, ra, rb, sp, mk, dp, fc, fa, fb, fm, sl, st, lf, su, pg, ss, ql, qs, qr, hd, fl, ek, ep, ev, er) (nI p) := by
  have e1 : vp_in (nI p) 4 := vp_in_nI hp (by decide)
  have e2 : (nI p).toNatClampNeg = p := nI_clamp (by omega)
  have e3 : vp_in (nI (p * 32 + c)) 128 := vp_in_nI (by omega) (by decide)
  have e4 : (nI (p * 32 + c)).toNatClampNeg = p * 32 + c := nI_clamp (by omega)
  have e5 : nI p * 32 + pc (nI p).toNatClampNeg = nI (p * 32 + c) := by rw [e2, ec, sk_ix32]
  have ho' : co (nI (p * 32 + c)).toNatClampNeg = 7 := by rw [e4]; exact ho
  have hk' : ca (nI (p * 32 + c)).toNatClampNeg = ca (p * 32 + c) := by rw [e4]
  unfold wpX_execute
  refine ⟨e1, nm_r e5 ⟨e3, nm_r ho' ⟨e3, nm_r hk' (br_f (by decide) (br_f (by decide) (br_f (by decide) (br_f (by decide) (br_f (by decide) (br_f (by decide) (br_f (by decide) (br_f (by decide) (br_f (by decide) (br_t rfl ?_))))))))))⟩⟩⟩
  unfold wX_execute_259 wpX_compute
  refine (br_f (by decide) (br_f (by decide) (br_f (by decide) (br_f (by decide) (br_f (by decide) (br_f (by decide) (br_f (by decide) (br_f (by decide) (br_t rfl ?_)))))))))
  rw [hk]
  unfold wpX_changeMask
  refine ⟨e1, nm_e (br_f (by decide) (br_f (by decide) (br_t rfl ⟨e1, nm_e ?_⟩)))⟩
  simp only [wX_changeMask_84, e1, e2, true_implies, false_implies, not_true_eq_false, not_false_eq_true, and_true, true_and, forall_eq, implies_true]
  exact h
theorem sx_x7b {post : SX → Prop} {p c : Nat} (hp : p < 4) (hc : c < 32) (ec : pc p = nI c) (ho : co (p * 32 + c) = 7) (hk : (ca (p * 32 + c)) = 1) (h : post (nI np, nI nd, ls, et, nI es, co, ca, upd pc p (pc p + 1), upd ra p (mk p), rb, sp, upd mk p ((mk p &&& (ra p ^^^ (-1))) &&& (-33282)), dp, fc, fa, fb, fm, sl, st, lf, su, pg, ss, ql, qs, qr, hd, fl, ek, ep, ev, er)) : wpX_execute post (nI np, nI nd, ls, et, nI es, co, ca, pc, ra, rb, sp, mk, dp, fc, fa, fb, fm, sl, st, lf, su, pg, ss, ql, qs, qr, hd, fl, ek, ep, ev, er) (nI p) := by
  have e1 : vp_in (nI p) 4 := vp_in_nI hp (by decide)
  have e2 : (nI p).toNatClampNeg = p := nI_clamp (by omega)
  have e3 : vp_in (nI (p * 32 + c)) 128 := vp_in_nI (by omega) (by decide)
  have e4 : (nI (p * 32 + c)).toNatClampNeg = p * 32 + c := nI_clamp (by omega)
  have e5 : nI p * 32 + pc (nI p).toNatClampNeg = nI (p * 32 + c) := by rw [e2, ec, sk_ix32]
  have ho' : co (nI (p * 32 + c)).toNatClampNeg = 7 := by rw [e4]; exact ho
  have hk' : ca (nI (p * 32 + c)).toNatClampNeg = ca (p * 32 + c) := by rw [e4]
  unfold wpX_execute
  refine ⟨e1, nm_r e5 ⟨e3, nm_r ho' ⟨e3, nm_r hk' (br_f (by decide) (br_f (by decide) (br_f (by decide) (br_f (by decide) (br_f (by decide) (br_f (by decide) (br_f (by decide) (br_f (by decide) (br_f (by decide) (br_t rfl ?_))))))))))⟩⟩⟩
  unfold wX_execute_259 wpX_compute
  refine (br_f (by decide) (br_f (by decide) (br_f (by decide) (br_f (by decide) (br_f (by decide) (br_f (by decide) (br_f (by decide) (br_f (by decide) (br_t rfl ?_)))))))))
  rw [hk]
  unfold wpX_changeMask
  refine ⟨e1, nm_e (br_f (by decide) (br_f (by decide) (br_f (by decide) (br_t rfl ⟨e1, nm_e ?_⟩))))⟩
  simp only [wX_changeMask_84, e1, e2, true_implies, false_implies, not_true_eq_false, not_false_eq_true, and_true, true_and, forall_eq, implies_true]
  exact h
theorem sx_x7c {post : SX → Prop} {p c : Nat} (hp : p < 4) (hc : c < 32) (ec : pc p = nI c) (ho : co (p * 32 + c) = 7) (hk : (ca (p * 32 + c)) = 2) (h : post (nI np, nI nd, ls, et, nI es, co, ca, upd pc p (pc p + 1), upd ra p (mk p), rb, sp, upd mk p ((ra p) &&& (-33282)), dp, fc, fa, fb, fm, sl, st, lf, su, pg, ss, ql, qs, qr, hd, fl, ek, ep, ev, er)) : wpX_execute post (nI np, nI nd, ls, et, nI es, co, ca, pc, ra, rb, sp, mk, dp, fc, fa, fb, fm, sl, st, lf, su, pg, ss, ql, qs, qr, hd, fl, ek, ep, ev, er) (nI p) := by
  have e1 : vp_in (nI p) 4 := vp_in_nI hp (by decide)
  have e2 : (nI p).toNatClampNeg = p := nI_clamp (by omega)
  have e3 : vp_in (nI (p * 32 + c)) 128 := vp_in_nI (by omega) (by decide)
  have e4 : (nI (p * 32 + c)).toNatClampNeg = p * 32 + c := nI_clamp (by omega)
  have e5 : nI p * 32 + pc (nI p).toNatClampNeg = nI (p * 32 + c) := by rw [e2, ec, sk_ix32]
  have ho' : co (nI (p * 32 + c)).toNatClampNeg = 7 := by rw [e4]; exact ho
  have hk' : ca (nI (p * 32 + c)).toNatClampNeg = ca (p * 32 + c) := by rw [e4]
  unfold wpX_execute
  refine ⟨e1, nm_r e5 ⟨e3, nm_r ho' ⟨e3, nm_r hk' (br_f (by decide) (br_f (by decide) (br_f (by decide) (br_f (by decide) (br_f (by decide) (br_f (by decide) (br_f (by decide) (br_f (by decide) (br_f (by decide) (br_t rfl ?_))))))))))⟩⟩⟩
  unfold wX_execute_259 wpX_compute
  refine (br_f (by decide) (br_f (by decide) (br_f (by decide) (br_f (by decide) (br_f (by decide) (br_f (by decide) (br_f (by decide) (br_f (by decide) (br_t rfl ?_)))))))))
  rw [hk]
  unfold wpX_changeMask
  refine ⟨e1, nm_e (br_f (by decide) (br_f (by decide) (br_f (by decide) (br_f (by decide) (br_t rfl ⟨e1, nm_e ?_⟩)))))⟩
  simp only [wX_changeMask_84, e1, e2, true_implies, false_implies, not_true_eq_false, not_false_eq_true, and_true, true_and, forall_eq, implies_true]
  exact h
theorem sx_x7d {post : SX → Prop} {p c : Nat} (hp : p < 4) (hc : c < 32) (ec : pc p = nI c) (ho : co (p * 32 + c) = 7) (k0 : ¬ (ca (p * 32 + c)) = 0) (k1 : ¬ (ca (p * 32 + c)) = 1) (k2 : ¬ (ca (p * 32 + c)) = 2) (h : post (nI np, nI nd, ls, et, nI es, co, ca, upd pc p (pc p + 1), upd ra p (-22), rb, sp, mk, dp, fc, fa, fb, fm, sl, st, lf, su, pg, ss, ql, qs, qr, hd, fl, ek, ep, ev, er)) : wpX_execute post (nI np, nI nd, ls, et, nI es, co, ca, pc, ra, rb, sp, mk, dp, fc, fa, fb, fm, sl, st, lf, su, pg, ss, ql, qs, qr, hd, fl, ek, ep, ev, er) (nI p) := by
  have e1 : vp_in (nI p) 4 := vp_in_nI hp (by decide)
  have e2 : (nI p).toNatClampNeg = p := nI_clamp (by omega)
  have e3 : vp_in (nI (p * 32 + c)) 128 := vp_in_nI (by omega) (by decide)
  have e4 : (nI (p * 32 + c)).toNatClampNeg = p * 32 + c := nI_clamp (by omega)
  have e5 : nI p * 32 + pc (nI p).toNatClampNeg = nI (p * 32 + c) := by rw [e2, ec, sk_ix32]
  have ho' : co (nI (p * 32 + c)).toNatClampNeg = 7 := by rw [e4]; exact ho
  have hk' : ca (nI (p * 32 + c)).toNatClampNeg = ca (p * 32 + c) := by rw [e4]
  unfold wpX_execute
  refine ⟨e1, nm_r e5 ⟨e3, nm_r ho' ⟨e3, nm_r hk' (br_f (by decide) (br_f (by decide) (br_f (by decide) (br_f (by decide) (br_f (by decide) (br_f (by decide) (br_f (by decide) (br_f (by decide) (br_f (by decide) (br_t rfl ?_))))))))))⟩⟩⟩
  unfold wX_execute_259 wpX_compute
  refine (br_f (by decide) (br_f (by decide) (br_f (by decide) (br_f (by decide) (br_f (by decide) (br_f (by decide) (br_f (by decide) (br_f (by decide) (br_t rfl ?_)))))))))
  unfold wpX_changeMask
  refine ⟨e1, nm_e (br_c (fun _ => ?_) fun _ => br_c (fun _ => ?_) fun _ => br_f k0 (br_f k1 (br_f k2 trivial)))⟩
  · simp only [e1, e2, true_implies, false_implies, not_true_eq_false, not_false_eq_true, and_true, true_and, forall_eq, implies_true]
    exact h
  · simp only [e1, e2, true_implies, false_implies, not_true_eq_false, not_false_eq_true, and_true, true_and, forall_eq, implies_true]
    exact h
theorem sx_x11 {post : SX → Prop} {p c : Nat} (hp : p < 4) (hc : c < 32) (ec : pc p = nI c) (ho : co (p * 32 + c) = 11) (hs : es ≤ 128) (h : post (nI np, nI nd, ls, et + 1, nI (sk_lgN es), co, ca, upd pc p (pc p + 1), ra, rb, sp, mk, dp, fc, fa, fb, fm, sl, st, lf, su, pg, ss, ql, qs, qr, hd, fl, sk_lgA ek es 6, sk_lgA ep es (nI p), sk_lgA ev es (ra p), sk_lgA er es 0)) : wpX_execute post (nI np, nI nd, ls, et, nI es, co, ca, pc, ra, rb, sp, mk, dp, fc, fa, fb, fm, sl, st, lf, su, pg, ss, ql, qs, qr, hd, fl, ek, ep, ev, er) (nI p) := by
  have e1 : vp_in (nI p) 4 := vp_in_nI hp (by decide)
  have e2 : (nI p).toNatClampNeg = p := nI_clamp (by omega)
  have e3 : vp_in (nI (p * 32 + c)) 128 := vp_in_nI (by omega) (by decide)
  have e4 : (nI (p * 32 + c)).toNatClampNeg = p * 32 + c := nI_clamp (by omega)
  have e5 : nI p * 32 + pc (nI p).toNatClampNeg = nI (p * 32 + c) := by rw [e2, ec, sk_ix32]
  have ho' : co (nI (p * 32 + c)).toNatClampNeg = 11 := by rw [e4]; exact ho
  have hk' : ca (nI (p * 32 + c)).toNatClampNeg = ca (p * 32 + c) := by rw [e4]
  unfold wpX_execute
  refine ⟨e1, nm_r e5 ⟨e3, nm_r ho' ⟨e3, nm_r hk' (br_f (by decide) (br_t (by decide) ?_))⟩⟩⟩
  unfold wX_execute_259 wpX_compute
  refine (br_f (by decide) (br_f (by decide) (br_f (by decide) (br_f (by decide) (br_f (by decide) (br_f (by decide) (br_f (by decide) (br_f (by decide) (br_f (by decide) (br_f (by decide) (br_f (by decide) (br_f (by decide) (br_t rfl ?_)))))))))))))
  simp only [e1, e2, true_implies, false_implies, not_true_eq_false, not_false_eq_true, and_true, true_and, forall_eq, implies_true]
  refine sx_log hs ?_
  exact h
theorem sx_x12 {post : SX → Prop} {p c : Nat} (hp : p < 4) (hc : c < 32) (ec : pc p = nI c) (ho : co (p * 32 + c) = 12) (h : post (nI np, nI nd, ls, et, nI es, co, ca, upd pc p (pc p + 1), ra, upd rb p (nI p), sp, mk, dp, fc, fa, fb, fm, sl, st, lf, su, pg, ss, ql, qs, qr, hd, fl, ek, ep, ev, er)) : wpX_execute post (nI np, nI nd, ls, et, nI es, co, ca, pc, ra, rb, sp, mk, dp, fc, fa, fb, fm, sl, st, lf, su, pg, ss, ql, qs, qr, hd, fl, ek, ep, ev, er) (nI p) := by
  have e1 : vp_in (nI p) 4 := vp_in_nI hp (by decide)
  have e2 : (nI p).toNatClampNeg = p := nI_clamp (by omega)
  have e3 : vp_in (nI (p * 32 + c)) 128 := vp_in_nI (by omega) (by decide)
  have e4 : (nI (p * 32 + c)).toNatClampNeg = p * 32 + c := nI_clamp (by omega)
  have e5 : nI p * 32 + pc (nI p).toNatClampNeg = nI (p * 32 + c) := by rw [e2, ec, sk_ix32]
  have ho' : co (nI (p * 32 + c)).toNatClampNeg = 12 := by rw [e4]; exact ho
  have hk' : ca (nI (p * 32 + c)).toNatClampNeg = ca (p * 32 + c) := by rw [e4]
  unfold wpX_execute
  refine ⟨e1, nm_r e5 ⟨e3, nm_r ho' ⟨e3, nm_r hk' (br_f (by decide) (br_t (by decide) ?_))⟩⟩⟩
  unfold wX_execute_259 wpX_compute
  refine (br_f (by decide) (br_f (by decide) (br_f (by decide) (br_f (by decide) (br_f (by decide) (br_f (by decide) (br_f (by decide) (br_f (by decide) (br_f (by decide) (br_f (by decide) (br_f (by decide) (br_f (by decide) (br_f (by decide) (br_t rfl ?_))))))))))))))
  simp only [e1, e2, true_implies, false_implies, not_true_eq_false, not_false_eq_true, and_true, true_and, forall_eq, implies_true]
  exact h
theorem sx_x13 {post : SX → Prop} {p c : Nat} (hp : p < 4) (hc : c < 32) (ec : pc p = nI c) (ho : co (p * 32 + c) = 13) {l : Nat} (hl : l ≤ 8) (el : ql p = nI l) (h : post (nI np, nI nd, ls, et, nI es, co, ca, upd pc p (pc p + 1), upd ra p (sk_orq (pg p) qs (p * 8) l), rb, sp, mk, dp, fc, fa, fb, fm, sl, st, lf, su, pg, ss, ql, qs, qr, hd, fl, ek, ep, ev, er)) : wpX_execute post (nI np, nI nd, ls, et, nI es, co, ca, pc, ra, rb, sp, mk, dp, fc, fa, fb, fm, sl, st, lf, su, pg, ss, ql, qs, qr, hd, fl, ek, ep, ev, er) (nI p) := by
  have e1 : vp_in (nI p) 4 := vp_in_nI hp (by decide)
  have e2 : (nI p).toNatClampNeg = p := nI_clamp (by omega)
  have e3 : vp_in (nI (p * 32 + c)) 128 := vp_in_nI (by omega) (by decide)
  have e4 : (nI (p * 32 + c)).toNatClampNeg = p * 32 + c := nI_clamp (by omega)
  have e5 : nI p * 32 + pc (nI p).toNatClampNeg = nI (p * 32 + c) := by rw [e2, ec, sk_ix32]
  have ho' : co (nI (p * 32 + c)).toNatClampNeg = 13 := by rw [e4]; exact ho
  have hk' : ca (nI (p * 32 + c)).toNatClampNeg = ca (p * 32 + c) := by rw [e4]
  unfold wpX_execute
  refine ⟨e1, nm_r e5 ⟨e3, nm_r ho' ⟨e3, nm_r hk' (br_f (by decide) (br_t (by decide) ?_))⟩⟩⟩
  unfold wX_execute_259 wpX_compute
  refine (br_f (by decide) (br_f (by decide) (br_f (by decide) (br_f (by decide) (br_f (by decide) (br_f (by decide) (br_f (by decide) (br_f (by decide) (br_f (by decide) (br_f (by decide) (br_f (by decide) (br_f (by decide) (br_f (by decide) (br_f (by decide) (br_t rfl ?_)))))))))))))))
  refine sx_allp hp hl el ?_
  simp only [e1, e2, true_implies, false_implies, not_true_eq_false, not_false_eq_true, and_true, true_and, forall_eq, implies_true]
  exact h
theorem sx_x14 {post : SX → Prop} {p c : Nat} (hp : p < 4) (hc : c < 32) (ec : pc p = nI c) (ho : co (p * 32 + c) = 14) (h : post (nI np, nI nd, ls, et, nI es, co, ca, upd pc p (pc p + 1), upd ra p (rb p), upd rb p (ra p), sp, mk, dp, fc, fa, fb, fm, sl, st, lf, su, pg, ss, ql, qs, qr, hd, fl, ek, ep, ev, er)) : wpX_execute post (nI np, nI nd, ls, et, nI es, co, ca, pc, ra, rb, sp, mk, dp, fc, fa, fb, fm, sl, st, lf, su, pg, ss, ql, qs, qr, hd, fl, ek, ep, ev, er) (nI p) := by
  have e1 : vp_in (nI p) 4 := vp_in_nI hp (by decide)
  have e2 : (nI p).toNatClampNeg = p := nI_clamp (by omega)
  have e3 : vp_in (nI (p * 32 + c)) 128 := vp_in_nI (by omega) (by decide)
  have e4 : (nI (p * 32 + c)).toNatClampNeg = p * 32 + c := nI_clamp (by omega)
  have e5 : nI p * 32 + pc (nI p).toNatClampNeg = nI (p * 32 + c) := by rw [e2, ec, sk_ix32]
  have ho' : co (nI (p * 32 + c)).toNatClampNeg = 14 := by rw [e4]; exact ho
  have hk' : ca (nI (p * 32 + c)).toNatClampNeg = ca (p * 32 + c) := by rw [e4]
  unfold wpX_execute
  refine ⟨e1, nm_r e5 ⟨e3, nm_r ho' ⟨e3, nm_r hk' (br_f (by decide) (br_t (by decide) ?_))⟩⟩⟩
  unfold wX_execute_259 wpX_compute
  refine (br_f (by decide) (br_f (by decide) (br_f (by decide) (br_f (by decide) (br_f (by decide) (br_f (by decide) (br_f (by decide) (br_f (by decide) (br_f (by decide) (br_f (by decide) (br_f (by decide) (br_f (by decide) (br_f (by decide) (br_f (by decide) (br_f (by decide) (br_t rfl ?_))))))))))))))))
  simp only [e1, e2, true_implies, false_implies, not_true_eq_false, not_false_eq_true, and_true, true_and, forall_eq, implies_true]
  exact h
theorem sx_xN {post : SX → Prop} {p c : Nat} (hp : p < 4) (hc : c < 32) (ec : pc p = nI c) (n0 : ¬ co (p * 32 + c) = 0) (n1 : ¬ co (p * 32 + c) = 1) (n2 : ¬ co (p * 32 + c) = 2) (n3 : ¬ co (p * 32 + c) = 3) (n4 : ¬ co (p * 32 + c) = 4) (n5 : ¬ co (p * 32 + c) = 5) (n6 : ¬ co (p * 32 + c) = 6) (n7 : ¬ co (p * 32 + c) = 7) (n8 : ¬ co (p * 32 + c) = 8) (n9 : ¬ co (p * 32 + c) = 9) (n10 : ¬ co (p * 32 + c) = 10) (n11 : ¬ co (p * 32 + c) = 11) (n12 : ¬ co (p * 32 + c) = 12) (n13 : ¬ co (p * 32 + c) = 13) (n14 : ¬ co (p * 32 + c) = 14) (h : post (nI np, nI nd, ls, et, nI es, co, ca, upd pc p (pc p + 1), ra, rb, sp, mk, dp, fc, fa, fb, fm, sl, st, lf, su, pg, ss, ql, qs, qr, hd, fl, ek, ep, ev, er)) : wpX_execute post (nI np, nI nd, ls, et, nI es, co, ca, pc, ra, rb, sp, mk, dp, fc, fa, fb, fm, sl, st, lf, su, pg, ss, ql, qs, qr, hd, fl, ek, ep, ev, er) (nI p) := by
  have e1 : vp_in (nI p) 4 := vp_in_nI hp (by decide)
  have e2 : (nI p).toNatClampNeg = p := nI_clamp (by omega)
  have e3 : vp_in (nI (p * 32 + c)) 128 := vp_in_nI (by omega) (by decide)
  have e4 : (nI (p * 32 + c)).toNatClampNeg = p * 32 + c := nI_clamp (by omega)
  have e5 : nI p * 32 + pc (nI p).toNatClampNeg = nI (p * 32 + c) := by rw [e2, ec, sk_ix32]
  have ho' : co (nI (p * 32 + c)).toNatClampNeg = co (p * 32 + c) := by rw [e4]
  have hk' : ca (nI (p * 32 + c)).toNatClampNeg = ca (p * 32 + c) := by rw [e4]
  unfold wpX_execute
  refine ⟨e1, nm_r e5 ⟨e3, nm_r ho' ⟨e3, nm_r hk' ?_⟩⟩⟩
  · have H : wX_execute_259 post (nI p) (co (p * 32 + c)) (ca (p * 32 + c)) (nI np) (nI nd) ls et (nI es) co ca pc ra rb sp mk dp fc fa fb fm sl st lf su pg ss ql qs qr hd fl ek ep ev er := by
      have h' : vp_in (nI p) 4 ∧ (vp_in (nI p) 4 ∧ ∀ a_pc_44, a_pc_44 = upd pc (nI p).toNatClampNeg (pc (nI p).toNatClampNeg + 1) → post (nI np, nI nd, ls, et, nI es, co, ca, a_pc_44, ra, rb, sp, mk, dp, fc, fa, fb, fm, sl, st, lf, su, pg, ss, ql, qs, qr, hd, fl, ek, ep, ev, er)) := by
        simp only [e1, e2, true_implies, false_implies, not_true_eq_false, not_false_eq_true, and_true, true_and, forall_eq, implies_true]
        exact h
      unfold wX_execute_259 wpX_compute
      exact br_c (fun _ => h') fun _ => br_c (fun _ => h') fun _ => (br_f n1 (br_f n2 (br_f n3 (br_f n4 (br_f n5 (br_f n6 (br_f n7 (br_f n8 (br_f n9 (br_f n10 (br_f n11 (br_f n12 (br_f n13 (br_f n14 trivial))))))))))))))
    exact br_c (fun _ => H) fun _ => br_c (fun _ => H) fun _ => (br_f n0 (br_f n1 (br_f n2 (br_f n3 (br_f n4 (br_f n5 (br_f n6 (br_f n7 (br_f n8 (br_f n9 (br_f n10 trivial)))))))))))
theorem sy_795 {post : Int32 → SY → Prop} {p : Nat} (hp : p < 4) (h : post 1 (nI np, nI nd, ls, et, nI es, co, ca, upd pc p (pc p + 1), ra, rb, sp, mk, dp, sl, lf, su, ql, st, pn, ss, qs, qr, hd, fl, fc, fa, fb, fm, ek, ep, ev, er)) : wY_step_795 post (nI p) (nI np) (nI nd) ls et (nI es) co ca pc ra rb sp mk dp sl lf su ql st pn ss qs qr hd fl fc fa fb fm ek ep ev er := by
  have e1 : vp_in (nI p) 4 := vp_in_nI hp (by decide)
  have e2 : (nI p).toNatClampNeg = p := nI_clamp (by omega)
  unfold wY_step_795
  exact ⟨e1, e1, nm_r (by rw [e2]) h⟩
theorem sy_s0 {post : Int32 → SY → Prop} {p c : Nat} (hp : p < 4) (hc : c < 32) (ec : pc p = nI c) (hl : lf p = 0) (ht : st p = 0) (hsl : sl p ≤ 0) (hd0 : ∀ post : Int32 → SY → Prop, post 0 (nI np, nI nd, ls, et, nI es, co, ca, pc, ra, rb, sp, mk, dp, sl, lf, su, ql, st, pn, ss, qs, qr, hd, fl, fc, fa, fb, fm, ek, ep, ev, er) → wpY_deliver post (nI np, nI nd, ls, et, nI es, co, ca, pc, ra, rb, sp, mk, dp, sl, lf, su, ql, st, pn, ss, qs, qr, hd, fl, fc, fa, fb, fm, ek, ep, ev, er) (nI p)) (hs : es ≤ 128) (ho : co (p * 32 + c) = 0) (h : post 1 (nI np, nI nd, ls, et + 1, nI (sk_lgN es), co, ca, pc, ra, rb, sp, mk, dp, upd sl p 0, upd lf p 3, upd su p (ra p), upd ql p 0, upd st p 0, sk_clr pn (p * 16) 16, sk_clr ss (p * 16) 16, qs, qr, hd, fl, fc, fa, fb, fm, sk_lgA ek es 7, sk_lgA ep es (nI p), sk_lgA ev es (ra p), sk_lgA er es 0)) : wpY_step post (nI np, nI nd, ls, et, nI es, co, ca, pc, ra, rb, sp, mk, dp, sl, lf, su, ql, st, pn, ss, qs, qr, hd, fl, fc, fa, fb, fm, ek, ep, ev, er) (nI p) := by
  have e1 : vp_in (nI p) 4 := vp_in_nI hp (by decide)
  have e2 : (nI p).toNatClampNeg = p := nI_clamp (by omega)
  have e3 : vp_in (nI (p * 32 + c)) 128 := vp_in_nI (by omega) (by decide)
  have e4 : (nI (p * 32 + c)).toNatClampNeg = p * 32 + c := nI_clamp (by omega)
  have e5 : nI p * 32 + pc (nI p).toNatClampNeg = nI (p * 32 + c) := by rw [e2, ec, sk_ix32]
  have q0 : vp_in (nI p * 32 + pc (nI p).toNatClampNeg) 128 := by rw [e5]; exact e3
  have qo : co (nI p * 32 + pc (nI p).toNatClampNeg).toNatClampNeg = co (p * 32 + c) := by rw [e5, e4]
  have qa : ca (nI p * 32 + pc (nI p).toNatClampNeg).toNatClampNeg = ca (p * 32 + c) := by rw [e5, e4]
  unfold wpY_step
  refine ⟨e1, br_t (by rw [e2]; exact hl) ⟨e1, br_t (by rw [e2]; exact ht) (hd0 _ (br_t rfl ⟨e1, br_t (by rw [e2]; exact hsl) ⟨e1, br_f (by rw [e2, ec]; exact nI_pos (by omega)) ⟨e1, br_t (by rw [e2, ec]; exact nI_le (b := 31) (by omega) (by decide)) ⟨e1, q0, nm_r qo ⟨e1, q0, nm_r qa ?_⟩⟩⟩⟩⟩))⟩⟩
  refine br_t ho ⟨e1, ?_⟩
  rw [e2]
  refine sy_die hp ?_
  refine ⟨e1, ?_⟩
  refine sy_log hs ?_
  exact h
theorem sy_s4 {post : Int32 → SY → Prop} {p c : Nat} (hp : p < 4) (hc : c < 32) (ec : pc p = nI c) (hl : lf p = 0) (ht : st p = 0) (hsl : sl p ≤ 0) (hd0 : ∀ post : Int32 → SY → Prop, post 0 (nI np, nI nd, ls, et, nI es, co, ca, pc, ra, rb, sp, mk, dp, sl, lf, su, ql, st, pn, ss, qs, qr, hd, fl, fc, fa, fb, fm, ek, ep, ev, er) → wpY_deliver post (nI np, nI nd, ls, et, nI es, co, ca, pc, ra, rb, sp, mk, dp, sl, lf, su, ql, st, pn, ss, qs, qr, hd, fl, fc, fa, fb, fm, ek, ep, ev, er) (nI p)) (ho : co (p * 32 + c) = 4) (h : post 1 (nI np, nI nd, ls, et, nI es, co, ca, upd pc p (ca (p * 32 + c)), ra, rb, sp, mk, dp, sl, lf, su, ql, st, pn, ss, qs, qr, hd, fl, fc, fa, fb, fm, ek, ep, ev, er)) : wpY_step post (nI np, nI nd, ls, et, nI es, co, ca, pc, ra, rb, sp, mk, dp, sl, lf, su, ql, st, pn, ss, qs, qr, hd, fl, fc, fa, fb, fm, ek, ep, ev, er) (nI p) := by
  have e1 : vp_in (nI p) 4 := vp_in_nI hp (by decide)
  have e2 : (nI p).toNatClampNeg = p := nI_clamp (by omega)
  have e3 : vp_in (nI (p * 32 + c)) 128 := vp_in_nI (by omega) (by decide)
  have e4 : (nI (p * 32 + c)).toNatClampNeg = p * 32 + c := nI_clamp (by omega)
  have e5 : nI p * 32 + pc (nI p).toNatClampNeg = nI (p * 32 + c) := by rw [e2, ec, sk_ix32]
  have q0 : vp_in (nI p * 32 + pc (nI p).toNatClampNeg) 128 := by rw [e5]; exact e3
  have qo : co (nI p * 32 + pc (nI p).toNatClampNeg).toNatClampNeg = co (p * 32 + c) := by rw [e5, e4]
  have qa : ca (nI p * 32 + pc (nI p).toNatClampNeg).toNatClampNeg = ca (p * 32 + c) := by rw [e5, e4]
  unfold wpY_step
  refine ⟨e1, br_t (by rw [e2]; exact hl) ⟨e1, br_t (by rw [e2]; exact ht) (hd0 _ (br_t rfl ⟨e1, br_t (by rw [e2]; exact hsl) ⟨e1, br_f (by rw [e2, ec]; exact nI_pos (by omega)) ⟨e1, br_t (by rw [e2, ec]; exact nI_le (b := 31) (by omega) (by decide)) ⟨e1, q0, nm_r qo ⟨e1, q0, nm_r qa ?_⟩⟩⟩⟩⟩))⟩⟩
  refine br_f (by rw [ho]; decide) (br_t ho ⟨e1, nm_r (by rw [e2]) ?_⟩)
  exact h
theorem sy_s5 {post : Int32 → SY → Prop} {p c : Nat} (hp : p < 4) (hc : c < 32) (ec : pc p = nI c) (hl : lf p = 0) (ht : st p = 0) (hsl : sl p ≤ 0) (hd0 : ∀ post : Int32 → SY → Prop, post 0 (nI np, nI nd, ls, et, nI es, co, ca, pc, ra, rb, sp, mk, dp, sl, lf, su, ql, st, pn, ss, qs, qr, hd, fl, fc, fa, fb, fm, ek, ep, ev, er) → wpY_deliver post (nI np, nI nd, ls, et, nI es, co, ca, pc, ra, rb, sp, mk, dp, sl, lf, su, ql, st, pn, ss, qs, qr, hd, fl, fc, fa, fb, fm, ek, ep, ev, er) (nI p)) (ho : co (p * 32 + c) = 5) (hz : ra p = 0) (h : post 1 (nI np, nI nd, ls, et, nI es, co, ca, upd pc p (pc p + 1), ra, rb, sp, mk, dp, sl, lf, su, ql, st, pn, ss, qs, qr, hd, fl, fc, fa, fb, fm, ek, ep, ev, er)) : wpY_step post (nI np, nI nd, ls, et, nI es, co, ca, pc, ra, rb, sp, mk, dp, sl, lf, su, ql, st, pn, ss, qs, qr, hd, fl, fc, fa, fb, fm, ek, ep, ev, er) (nI p) := by
  have e1 : vp_in (nI p) 4 := vp_in_nI hp (by decide)
  have e2 : (nI p).toNatClampNeg = p := nI_clamp (by omega)
  have e3 : vp_in (nI (p * 32 + c)) 128 := vp_in_nI (by omega) (by decide)
  have e4 : (nI (p * 32 + c)).toNatClampNeg = p * 32 + c := nI_clamp (by omega)
  have e5 : nI p * 32 + pc (nI p).toNatClampNeg = nI (p * 32 + c) := by rw [e2, ec, sk_ix32]
  have q0 : vp_in (nI p * 32 + pc (nI p).toNatClampNeg) 128 := by rw [e5]; exact e3
  have qo : co (nI p * 32 + pc (nI p).toNatClampNeg).toNatClampNeg = co (p * 32 + c) := by rw [e5, e4]
  have qa : ca (nI p * 32 + pc (nI p).toNatClampNeg).toNatClampNeg = ca (p * 32 + c) := by rw [e5, e4]
  unfold wpY_step
  refine ⟨e1, br_t (by rw [e2]; exact hl) ⟨e1, br_t (by rw [e2]; exact ht) (hd0 _ (br_t rfl ⟨e1, br_t (by rw [e2]; exact hsl) ⟨e1, br_f (by rw [e2, ec]; exact nI_pos (by omega)) ⟨e1, br_t (by rw [e2, ec]; exact nI_le (b := 31) (by omega) (by decide)) ⟨e1, q0, nm_r qo ⟨e1, q0, nm_r qa ?_⟩⟩⟩⟩⟩))⟩⟩
  refine br_f (by rw [ho]; decide) (br_f (by rw [ho]; decide) (br_t ho ⟨e1, br_t (by rw [e2]; exact hz) ⟨e1, e1, nm_r (by rw [e2]) ?_⟩⟩))
  exact h
theorem sy_s5b {post : Int32 → SY → Prop} {p c : Nat} (hp : p < 4) (hc : c < 32) (ec : pc p = nI c) (hl : lf p = 0) (ht : st p = 0) (hsl : sl p ≤ 0) (hd0 : ∀ post : Int32 → SY → Prop, post 0 (nI np, nI nd, ls, et, nI es, co, ca, pc, ra, rb, sp, mk, dp, sl, lf, su, ql, st, pn, ss, qs, qr, hd, fl, fc, fa, fb, fm, ek, ep, ev, er) → wpY_deliver post (nI np, nI nd, ls, et, nI es, co, ca, pc, ra, rb, sp, mk, dp, sl, lf, su, ql, st, pn, ss, qs, qr, hd, fl, fc, fa, fb, fm, ek, ep, ev, er) (nI p)) (ho : co (p * 32 + c) = 5) (hz : ¬ ra p = 0) (h : post 1 (nI np, nI nd, ls, et, nI es, co, ca, upd pc p (ca (p * 32 + c)), ra, rb, sp, mk, dp, sl, lf, su, ql, st, pn, ss, qs, qr, hd, fl, fc, fa, fb, fm, ek, ep, ev, er)) : wpY_step post (nI np, nI nd, ls, et, nI es, co, ca, pc, ra, rb, sp, mk, dp, sl, lf, su, ql, st, pn, ss, qs, qr, hd, fl, fc, fa, fb, fm, ek, ep, ev, er) (nI p) := by
  have e1 : vp_in (nI p) 4 := vp_in_nI hp (by decide)
  have e2 : (nI p).toNatClampNeg = p := nI_clamp (by omega)
  have e3 : vp_in (nI (p * 32 + c)) 128 := vp_in_nI (by omega) (by decide)
  have e4 : (nI (p * 32 + c)).toNatClampNeg = p * 32 + c := nI_clamp (by omega)
  have e5 : nI p * 32 + pc (nI p).toNatClampNeg = nI (p * 32 + c) := by rw [e2, ec, sk_ix32]
  have q0 : vp_in (nI p * 32 + pc (nI p).toNatClampNeg) 128 := by rw [e5]; exact e3
  have qo : co (nI p * 32 + pc (nI p).toNatClampNeg).toNatClampNeg = co (p * 32 + c) := by rw [e5, e4]
  have qa : ca (nI p * 32 + pc (nI p).toNatClampNeg).toNatClampNeg = ca (p * 32 + c) := by rw [e5, e4]
  unfold wpY_step
  refine ⟨e1, br_t (by rw [e2]; exact hl) ⟨e1, br_t (by rw [e2]; exact ht) (hd0 _ (br_t rfl ⟨e1, br_t (by rw [e2]; exact hsl) ⟨e1, br_f (by rw [e2, ec]; exact nI_pos (by omega)) ⟨e1, br_t (by rw [e2, ec]; exact nI_le (b := 31) (by omega) (by decide)) ⟨e1, q0, nm_r qo ⟨e1, q0, nm_r qa ?_⟩⟩⟩⟩⟩))⟩⟩
  refine br_f (by rw [ho]; decide) (br_f (by rw [ho]; decide) (br_t ho ⟨e1, br_f (by rw [e2]; exact hz) ⟨e1, nm_r (by rw [e2]) ?_⟩⟩))
  exact h
theorem sy_s9 {post : Int32 → SY → Prop} {p c : Nat} (hp : p < 4) (hc : c < 32) (ec : pc p = nI c) (hl : lf p = 0) (ht : st p = 0) (hsl : sl p ≤ 0) (hd0 : ∀ post : Int32 → SY → Prop, post 0 (nI np, nI nd, ls, et, nI es, co, ca, pc, ra, rb, sp, mk, dp, sl, lf, su, ql, st, pn, ss, qs, qr, hd, fl, fc, fa, fb, fm, ek, ep, ev, er) → wpY_deliver post (nI np, nI nd, ls, et, nI es, co, ca, pc, ra, rb, sp, mk, dp, sl, lf, su, ql, st, pn, ss, qs, qr, hd, fl, fc, fa, fb, fm, ek, ep, ev, er) (nI p)) (ho : co (p * 32 + c) = 9) (hz : ¬ (ca (p * 32 + c)) ≤ 0) (h : post 1 (nI np, nI nd, ls, et, nI es, co, ca, pc, ra, rb, sp, mk, dp, upd sl p (ca (p * 32 + c)), lf, su, ql, st, pn, ss, qs, qr, hd, fl, fc, fa, fb, fm, ek, ep, ev, er)) : wpY_step post (nI np, nI nd, ls, et, nI es, co, ca, pc, ra, rb, sp, mk, dp, sl, lf, su, ql, st, pn, ss, qs, qr, hd, fl, fc, fa, fb, fm, ek, ep, ev, er) (nI p) := by
  have e1 : vp_in (nI p) 4 := vp_in_nI hp (by decide)
  have e2 : (nI p).toNatClampNeg = p := nI_clamp (by omega)
  have e3 : vp_in (nI (p * 32 + c)) 128 := vp_in_nI (by omega) (by decide)
  have e4 : (nI (p * 32 + c)).toNatClampNeg = p * 32 + c := nI_clamp (by omega)
  have e5 : nI p * 32 + pc (nI p).toNatClampNeg = nI (p * 32 + c) := by rw [e2, ec, sk_ix32]
  have q0 : vp_in (nI p * 32 + pc (nI p).toNatClampNeg) 128 := by rw [e5]; exact e3
  have qo : co (nI p * 32 + pc (nI p).toNatClampNeg).toNatClampNeg = co (p * 32 + c) := by rw [e5, e4]
  have qa : ca (nI p * 32 + pc (nI p).toNatClampNeg).toNatClampNeg = ca (p * 32 + c) := by rw [e5, e4]
  unfold wpY_step
  refine ⟨e1, br_t (by rw [e2]; exact hl) ⟨e1, br_t (by rw [e2]; exact ht) (hd0 _ (br_t rfl ⟨e1, br_t (by rw [e2]; exact hsl) ⟨e1, br_f (by rw [e2, ec]; exact nI_pos (by omega)) ⟨e1, br_t (by rw [e2, ec]; exact nI_le (b := 31) (by omega) (by decide)) ⟨e1, q0, nm_r qo ⟨e1, q0, nm_r qa ?_⟩⟩⟩⟩⟩))⟩⟩
  refine br_f (by rw [ho]; decide) (br_f (by rw [ho]; decide) (br_f (by rw [ho]; decide) (br_t ho (br_f hz ⟨e1, nm_r (by rw [e2]) ?_⟩))))
  exact h
theorem sy_sN {post : Int32 → SY → Prop} {p c : Nat} (hp : p < 4) (hc : c < 32) (ec : pc p = nI c) (hl : lf p = 0) (ht : st p = 0) (hsl : sl p ≤ 0) (hd0 : ∀ post : Int32 → SY → Prop, post 0 (nI np, nI nd, ls, et, nI es, co, ca, pc, ra, rb, sp, mk, dp, sl, lf, su, ql, st, pn, ss, qs, qr, hd, fl, fc, fa, fb, fm, ek, ep, ev, er) → wpY_deliver post (nI np, nI nd, ls, et, nI es, co, ca, pc, ra, rb, sp, mk, dp, sl, lf, su, ql, st, pn, ss, qs, qr, hd, fl, fc, fa, fb, fm, ek, ep, ev, er) (nI p)) (n0 : ¬ co (p * 32 + c) = 0) (n4 : ¬ co (p * 32 + c) = 4) (n5 : ¬ co (p * 32 + c) = 5) (n9 : ¬ co (p * 32 + c) = 9 ∨ (ca (p * 32 + c)) ≤ 0) (h : wY_step_251 post (nI p) (co (p * 32 + c)) (ca (p * 32 + c)) (nI np) (nI nd) ls et (nI es) co ca pc ra rb sp mk dp sl lf su ql st pn ss qs qr hd fl fc fa fb fm ek ep ev er) : wpY_step post (nI np, nI nd, ls, et, nI es, co, ca, pc, ra, rb, sp, mk, dp, sl, lf, su, ql, st, pn, ss, qs, qr, hd, fl, fc, fa, fb, fm, ek, ep, ev, er) (nI p) := by
  have e1 : vp_in (nI p) 4 := vp_in_nI hp (by decide)
  have e2 : (nI p).toNatClampNeg = p := nI_clamp (by omega)
  have e3 : vp_in (nI (p * 32 + c)) 128 := vp_in_nI (by omega) (by decide)
  have e4 : (nI (p * 32 + c)).toNatClampNeg = p * 32 + c := nI_clamp (by omega)
  have e5 : nI p * 32 + pc (nI p).toNatClampNeg = nI (p * 32 + c) := by rw [e2, ec, sk_ix32]
  have q0 : vp_in (nI p * 32 + pc (nI p).toNatClampNeg) 128 := by rw [e5]; exact e3
  have qo : co (nI p * 32 + pc (nI p).toNatClampNeg).toNatClampNeg = co (p * 32 + c) := by rw [e5, e4]
  have qa : ca (nI p * 32 + pc (nI p).toNatClampNeg).toNatClampNeg = ca (p * 32 + c) := by rw [e5, e4]
  unfold wpY_step
  refine ⟨e1, br_t (by rw [e2]; exact hl) ⟨e1, br_t (by rw [e2]; exact ht) (hd0 _ (br_t rfl ⟨e1, br_t (by rw [e2]; exact hsl) ⟨e1, br_f (by rw [e2, ec]; exact nI_pos (by omega)) ⟨e1, br_t (by rw [e2, ec]; exact nI_le (b := 31) (by omega) (by decide)) ⟨e1, q0, nm_r qo ⟨e1, q0, nm_r qa ?_⟩⟩⟩⟩⟩))⟩⟩
  exact br_f n0 (br_f n4 (br_f n5 (br_c (fun z => br_t (n9.resolve_left (fun y => y z)) h) fun _ => h)))
theorem sy_t1 {post : Int32 → SY → Prop} {p : Nat} {k : Int32} (hp : p < 4) (h : post 1 (nI np, nI nd, ls, et, nI es, co, ca, upd pc p (pc p + 1), upd ra p k, rb, sp, mk, dp, sl, lf, su, ql, st, pn, ss, qs, qr, hd, fl, fc, fa, fb, fm, ek, ep, ev, er)) : wY_step_251 post (nI p) 1 k (nI np) (nI nd) ls et (nI es) co ca pc ra rb sp mk dp sl lf su ql st pn ss qs qr hd fl fc fa fb fm ek ep ev er := by
  have e1 : vp_in (nI p) 4 := vp_in_nI hp (by decide)
  have e2 : (nI p).toNatClampNeg = p := nI_clamp (by omega)
  unfold wY_step_251
  refine br_f (by decide) ?_
  unfold wY_step_356
  refine (br_f (by decide) (br_t rfl ?_))
  refine ⟨e1, nm_r (by rw [e2]) ?_⟩
  exact sy_795 hp h
theorem sy_t2 {post : Int32 → SY → Prop} {p : Nat} {k : Int32} (hp : p < 4) (h : post 1 (nI np, nI nd, ls, et, nI es, co, ca, upd pc p (pc p + 1), ra, upd rb p k, sp, mk, dp, sl, lf, su, ql, st, pn, ss, qs, qr, hd, fl, fc, fa, fb, fm, ek, ep, ev, er)) : wY_step_251 post (nI p) 2 k (nI np) (nI nd) ls et (nI es) co ca pc ra rb sp mk dp sl lf su ql st pn ss qs qr hd fl fc fa fb fm ek ep ev er := by
  have e1 : vp_in (nI p) 4 := vp_in_nI hp (by decide)
  have e2 : (nI p).toNatClampNeg = p := nI_clamp (by omega)
  unfold wY_step_251
  refine br_f (by decide) ?_
  unfold wY_step_356
  refine (br_f (by decide) (br_f (by decide) (br_t rfl ?_)))
  refine ⟨e1, nm_r (by rw [e2]) ?_⟩
  exact sy_795 hp h
theorem sy_t3 {post : Int32 → SY → Prop} {p : Nat} {k : Int32} (hp : p < 4) (h : post 1 (nI np, nI nd, ls, et, nI es, co, ca, upd pc p (pc p + 1), upd ra p (ra p + k), rb, sp, mk, dp, sl, lf, su, ql, st, pn, ss, qs, qr, hd, fl, fc, fa, fb, fm, ek, ep, ev, er)) : wY_step_251 post (nI p) 3 k (nI np) (nI nd) ls et (nI es) co ca pc ra rb sp mk dp sl lf su ql st pn ss qs qr hd fl fc fa fb fm ek ep ev er := by
  have e1 : vp_in (nI p) 4 := vp_in_nI hp (by decide)
  have e2 : (nI p).toNatClampNeg = p := nI_clamp (by omega)
  unfold wY_step_251
  refine br_f (by decide) ?_
  unfold wY_step_356
  refine (br_f (by decide) (br_f (by decide) (br_f (by decide) (br_t rfl ?_))))
  refine ⟨e1, e1, nm_r (by rw [e2]) ?_⟩
  exact sy_795 hp h
theorem sy_t7a {post : Int32 → SY → Prop} {p : Nat} {k : Int32} (hp : p < 4) (hk : k = 0) (h : post 1 (nI np, nI nd, ls, et, nI es, co, ca, upd pc p (pc p + 1), upd ra p (mk p), rb, sp, upd mk p ((mk p ||| ra p) &&& (-33282)), dp, sl, lf, su, ql, st, pn, ss, qs, qr, hd, fl, fc, fa, fb, fm, ek, ep, ev, er)) : wY_step_251 post (nI p) 7 k (nI np) (nI nd) ls et (nI es) co ca pc ra rb sp mk dp sl lf su ql st pn ss qs qr hd fl fc fa fb fm ek ep ev er := by
  have e1 : vp_in (nI p) 4 := vp_in_nI hp (by decide)
  have e2 : (nI p).toNatClampNeg = p := nI_clamp (by omega)
  unfold wY_step_251
  refine br_f (by decide) ?_
  unfold wY_step_356
  refine (br_f (by decide) (br_f (by decide) (br_f (by decide) (br_f (by decide) (br_t rfl ?_)))))
  refine ⟨e1, nm_e (br_t hk ?_)⟩
  simp only [wpY_clean, wY_step_574, e1, e2, true_implies, false_implies, not_true_eq_false, not_false_eq_true, and_true, true_and, forall_eq, implies_true]
  exact sy_795 hp h
theorem sy_t7b {post : Int32 → SY → Prop} {p : Nat} {k : Int32} (hp : p < 4) (hk : k = 1) (h : post 1 (nI np, nI nd, ls, et, nI es, co, ca, upd pc p (pc p + 1), upd ra p (mk p), rb, sp, upd mk p ((mk p &&& (ra p ^^^ (-1))) &&& (-33282)), dp, sl, lf, su, ql, st, pn, ss, qs, qr, hd, fl, fc, fa, fb, fm, ek, ep, ev, er)) : wY_step_251 post (nI p) 7 k (nI np) (nI nd) ls et (nI es) co ca pc ra rb sp mk dp sl lf su ql st pn ss qs qr hd fl fc fa fb fm ek ep ev er := by
  have e1 : vp_in (nI p) 4 := vp_in_nI hp (by decide)
  have e2 : (nI p).toNatClampNeg = p := nI_clamp (by omega)
  unfold wY_step_251
  refine br_f (by decide) ?_
  unfold wY_step_356
  refine (br_f (by decide) (br_f (by decide) (br_f (by decide) (br_f (by decide) (br_t rfl ?_)))))
  refine ⟨e1, nm_e (br_f (by rw [hk]; decide) (br_t hk ?_))⟩
  simp only [wpY_clean, wY_step_574, e1, e2, true_implies, false_implies, not_true_eq_false, not_false_eq_true, and_true, true_and, forall_eq, implies_true]
  exact sy_795 hp h
theorem sy_t7c {post : Int32 → SY → Prop} {p : Nat} {k : Int32} (hp : p < 4) (hk : k = 2) (h : post 1 (nI np, nI nd, ls, et, nI es, co, ca, upd pc p (pc p + 1), upd ra p (mk p), rb, sp, upd mk p ((ra p) &&& (-33282)), dp, sl, lf, su, ql, st, pn, ss, qs, qr, hd, fl, fc, fa, fb, fm, ek, ep, ev, er)) : wY_step_251 post (nI p) 7 k (nI np) (nI nd) ls et (nI es) co ca pc ra rb sp mk dp sl lf su ql st pn ss qs qr hd fl fc fa fb fm ek ep ev er := by
  have e1 : vp_in (nI p) 4 := vp_in_nI hp (by decide)
  have e2 : (nI p).toNatClampNeg = p := nI_clamp (by omega)
  unfold wY_step_251
  refine br_f (by decide) ?_
  unfold wY_step_356
  refine (br_f (by decide) (br_f (by decide) (br_f (by decide) (br_f (by decide) (br_t rfl ?_)))))
  refine ⟨e1, nm_e (br_f (by rw [hk]; decide) (br_f (by rw [hk]; decide) (br_t hk ?_)))⟩
  simp only [wpY_clean, wY_step_574, e1, e2, true_implies, false_implies, not_true_eq_false, not_false_eq_true, and_true, true_and, forall_eq, implies_true]
  exact sy_795 hp h
theorem sy_t7d {post : Int32 → SY → Prop} {p : Nat} {k : Int32} (hp : p < 4) (k0 : ¬ k = 0) (k1 : ¬ k = 1) (k2 : ¬ k = 2) (h : post 1 (nI np, nI nd, ls, et, nI es, co, ca, upd pc p (pc p + 1), upd ra p (-22), rb, sp, mk, dp, sl, lf, su, ql, st, pn, ss, qs, qr, hd, fl, fc, fa, fb, fm, ek, ep, ev, er)) : wY_step_251 post (nI p) 7 k (nI np) (nI nd) ls et (nI es) co ca pc ra rb sp mk dp sl lf su ql st pn ss qs qr hd fl fc fa fb fm ek ep ev er := by
  have e1 : vp_in (nI p) 4 := vp_in_nI hp (by decide)
  have e2 : (nI p).toNatClampNeg = p := nI_clamp (by omega)
  unfold wY_step_251
  refine br_f (by decide) ?_
  unfold wY_step_356
  refine (br_f (by decide) (br_f (by decide) (br_f (by decide) (br_f (by decide) (br_t rfl ?_)))))
  refine ⟨e1, nm_e (br_f k0 (br_f k1 (br_f k2 ⟨e1, nm_r (by rw [e2]) ?_⟩)))⟩
  unfold wY_step_574
  exact sy_795 hp h
theorem sy_t8 {post : Int32 → SY → Prop} {p g : Nat} (hp : p < 4) (h1 : 1 ≤ g) (hg : g < 32) (h9 : g ≠ 9) (h15 : g ≠ 15) (hx : ra p = -2 ∨ ra p = -1 ∨ ∃ j, j < 32 ∧ ra p = nI j) (h : post 1 (nI np, nI nd, ls, et, nI es, co, ca, upd pc p (pc p + 1), upd ra p (hd (p * 32 + g)), rb, sp, mk, dp, sl, lf, su, ql, st, pn, ss, qs, qr, upd hd (p * 32 + g) (ra p), upd fl (p * 32 + g) (rb p &&& 7), fc, fa, fb, fm, ek, ep, ev, er)) : wY_step_251 post (nI p) 8 (nI g) (nI np) (nI nd) ls et (nI es) co ca pc ra rb sp mk dp sl lf su ql st pn ss qs qr hd fl fc fa fb fm ek ep ev er := by
  have e1 : vp_in (nI p) 4 := vp_in_nI hp (by decide)
  have e2 : (nI p).toNatClampNeg = p := nI_clamp (by omega)
  have e3 : vp_in (nI (p * 32 + g)) 128 := vp_in_nI (by omega) (by decide)
  have e4 : (nI (p * 32 + g)).toNatClampNeg = p * 32 + g := nI_clamp (by omega)
  unfold wY_step_251
  refine br_f (by decide) ?_
  unfold wY_step_356
  refine (br_f (by decide) (br_f (by decide) (br_f (by decide) (br_f (by decide) (br_f (by decide) (br_t rfl ?_))))))
  refine ⟨e1, ?_⟩
  rw [e2]
  refine sy_ok1 h1 hg h9 h15 hx ?_
  refine br_f (by decide) ?_
  simp only [sk_ix32, e1, e2, e3, e4, true_implies, false_implies, not_true_eq_false, not_false_eq_true, and_true, true_and, forall_eq, implies_true]
  exact sy_795 hp h
theorem sy_t8b {post : Int32 → SY → Prop} {p : Nat} {k : Int32} (hp : p < 4) (hk : ∀ q : Int32 → Prop, q 0 → wpY_actOk q (nI np, nI nd, ls, et, nI es, co, ca, pc, ra, rb, sp, mk, dp, sl, lf, su, ql, st, pn, ss, qs, qr, hd, fl, fc, fa, fb, fm, ek, ep, ev, er) k (ra p)) (h : post 1 (nI np, nI nd, ls, et, nI es, co, ca, upd pc p (pc p + 1), upd ra p (-22), rb, sp, mk, dp, sl, lf, su, ql, st, pn, ss, qs, qr, hd, fl, fc, fa, fb, fm, ek, ep, ev, er)) : wY_step_251 post (nI p) 8 k (nI np) (nI nd) ls et (nI es) co ca pc ra rb sp mk dp sl lf su ql st pn ss qs qr hd fl fc fa fb fm ek ep ev er := by
  have e1 : vp_in (nI p) 4 := vp_in_nI hp (by decide)
  have e2 : (nI p).toNatClampNeg = p := nI_clamp (by omega)
  unfold wY_step_251
  refine br_f (by decide) ?_
  unfold wY_step_356
  refine (br_f (by decide) (br_f (by decide) (br_f (by decide) (br_f (by decide) (br_f (by decide) (br_t rfl ?_))))))
  refine ⟨e1, ?_⟩
  rw [e2]
  refine hk _ ?_
  refine br_t rfl ⟨e1, nm_e ?_⟩
  exact sy_795 hp h
theorem sy_t9 {post : Int32 → SY → Prop} {p : Nat} {k : Int32} (hp : p < 4) (h : post 1 (nI np, nI nd, ls, et, nI es, co, ca, upd pc p (pc p + 1), upd ra p 0, rb, sp, mk, dp, sl, lf, su, ql, st, pn, ss, qs, qr, hd, fl, fc, fa, fb, fm, ek, ep, ev, er)) : wY_step_251 post (nI p) 9 k (nI np) (nI nd) ls et (nI es) co ca pc ra rb sp mk dp sl lf su ql st pn ss qs qr hd fl fc fa fb fm ek ep ev er := by
  have e1 : vp_in (nI p) 4 := vp_in_nI hp (by decide)
  have e2 : (nI p).toNatClampNeg = p := nI_clamp (by omega)
  unfold wY_step_251
  refine br_f (by decide) ?_
  unfold wY_step_356
  refine (br_f (by decide) (br_f (by decide) (br_f (by decide) (br_f (by decide) (br_f (by decide) (br_f (by decide) (br_t rfl ?_)))))))
  refine ⟨e1, nm_r (by rw [e2]) ?_⟩
  exact sy_795 hp h
theorem sy_t10 {post : Int32 → SY → Prop} {p : Nat} {k : Int32} (hp : p < 4) {d : Nat} (hd4 : d + 1 ≤ 4) (ed : dp p = nI (d + 1)) (hf : fm (p * 4 + d) &&& (-33282) = fm (p * 4 + d)) (h : post 1 (nI np, nI nd, ls, et, nI es, co, ca, upd pc p (fc (p * 4 + d)), upd ra p (fa (p * 4 + d)), upd rb p (fb (p * 4 + d)), upd sp p (sp p + 4), upd mk p (fm (p * 4 + d)), upd dp p (nI d), sl, lf, su, ql, st, pn, ss, qs, qr, hd, fl, fc, fa, fb, fm, ek, ep, ev, er)) : wY_step_251 post (nI p) 10 k (nI np) (nI nd) ls et (nI es) co ca pc ra rb sp mk dp sl lf su ql st pn ss qs qr hd fl fc fa fb fm ek ep ev er := by
  have e1 : vp_in (nI p) 4 := vp_in_nI hp (by decide)
  have e2 : (nI p).toNatClampNeg = p := nI_clamp (by omega)
  unfold wY_step_251
  have z : ¬ nI (d + 1) ≤ 0 := nI_nle (by omega) (by omega)
  have e6 : vp_in (nI (p * 4 + d)) 16 := vp_in_nI (by omega) (by decide)
  have e7 : (nI (p * 4 + d)).toNatClampNeg = p * 4 + d := nI_clamp (by omega)
  refine br_t rfl ⟨e1, br_f (by rw [e2, ed]; exact z) ?_⟩
  simp only [wpY_clean, e1, e2, ed, nI_pred, pk_us, sk_ix4, e6, e7, hf, true_implies, false_implies, not_true_eq_false, not_false_eq_true, and_true, true_and, forall_eq, implies_true]
  exact h
theorem sy_t10b {post : Int32 → SY → Prop} {p : Nat} {k : Int32} (hp : p < 4) (ed : dp p = 0) (h : post 1 (nI np, nI nd, ls, et, nI es, co, ca, upd pc p (pc p + 1), upd ra p (-22), rb, sp, mk, dp, sl, lf, su, ql, st, pn, ss, qs, qr, hd, fl, fc, fa, fb, fm, ek, ep, ev, er)) : wY_step_251 post (nI p) 10 k (nI np) (nI nd) ls et (nI es) co ca pc ra rb sp mk dp sl lf su ql st pn ss qs qr hd fl fc fa fb fm ek ep ev er := by
  have e1 : vp_in (nI p) 4 := vp_in_nI hp (by decide)
  have e2 : (nI p).toNatClampNeg = p := nI_clamp (by omega)
  unfold wY_step_251
  refine br_t rfl ⟨e1, br_t (by rw [e2, ed]; decide) ?_⟩
  unfold wY_step_356
  refine (br_f (by decide) (br_f (by decide) (br_f (by decide) (br_f (by decide) (br_f (by decide) (br_f (by decide) (br_f (by decide) (br_t rfl ?_))))))))
  refine ⟨e1, nm_r (by rw [e2]) ?_⟩
  exact sy_795 hp h
theorem sy_t11 {post : Int32 → SY → Prop} {p : Nat} {k : Int32} (hp : p < 4) (hs : es ≤ 128) (h : post 1 (nI np, nI nd, ls, et + 1, nI (sk_lgN es), co, ca, upd pc p (pc p + 1), ra, rb, sp, mk, dp, sl, lf, su, ql, st, pn, ss, qs, qr, hd, fl, fc, fa, fb, fm, sk_lgA ek es 6, sk_lgA ep es (nI p), sk_lgA ev es (ra p), sk_lgA er es 0)) : wY_step_251 post (nI p) 11 k (nI np) (nI nd) ls et (nI es) co ca pc ra rb sp mk dp sl lf su ql st pn ss qs qr hd fl fc fa fb fm ek ep ev er := by
  have e1 : vp_in (nI p) 4 := vp_in_nI hp (by decide)
  have e2 : (nI p).toNatClampNeg = p := nI_clamp (by omega)
  unfold wY_step_251
  refine br_f (by decide) ?_
  unfold wY_step_356
  refine (br_f (by decide) (br_f (by decide) (br_f (by decide) (br_f (by decide) (br_f (by decide) (br_f (by decide) (br_f (by decide) (br_f (by decide) (br_t rfl ?_)))))))))
  refine ⟨e1, ?_⟩
  rw [e2]
  refine sy_log hs ?_
  exact sy_795 hp h
theorem sy_t12 {post : Int32 → SY → Prop} {p : Nat} {k : Int32} (hp : p < 4) (h : post 1 (nI np, nI nd, ls, et, nI es, co, ca, upd pc p (pc p + 1), ra, upd rb p (nI p), sp, mk, dp, sl, lf, su, ql, st, pn, ss, qs, qr, hd, fl, fc, fa, fb, fm, ek, ep, ev, er)) : wY_step_251 post (nI p) 12 k (nI np) (nI nd) ls et (nI es) co ca pc ra rb sp mk dp sl lf su ql st pn ss qs qr hd fl fc fa fb fm ek ep ev er := by
  have e1 : vp_in (nI p) 4 := vp_in_nI hp (by decide)
  have e2 : (nI p).toNatClampNeg = p := nI_clamp (by omega)
  unfold wY_step_251
  refine br_f (by decide) ?_
  unfold wY_step_356
  refine (br_f (by decide) (br_f (by decide) (br_f (by decide) (br_f (by decide) (br_f (by decide) (br_f (by decide) (br_f (by decide) (br_f (by decide) (br_f (by decide) (br_t rfl ?_))))))))))
  refine ⟨e1, nm_r (by rw [e2]) ?_⟩
  exact sy_795 hp h
theorem sy_t13 {post : Int32 → SY → Prop} {p : Nat} {k : Int32} (hp : p < 4) {l : Nat} {w : Int32} (hl : l ≤ 8) (el : ql p = nI l) (hw : sk_PB w pn p) (h : post 1 (nI np, nI nd, ls, et, nI es, co, ca, upd pc p (pc p + 1), upd ra p (sk_orq w qs (p * 8) l), rb, sp, mk, dp, sl, lf, su, ql, st, pn, ss, qs, qr, hd, fl, fc, fa, fb, fm, ek, ep, ev, er)) : wY_step_251 post (nI p) 13 k (nI np) (nI nd) ls et (nI es) co ca pc ra rb sp mk dp sl lf su ql st pn ss qs qr hd fl fc fa fb fm ek ep ev er := by
  have e1 : vp_in (nI p) 4 := vp_in_nI hp (by decide)
  have e2 : (nI p).toNatClampNeg = p := nI_clamp (by omega)
  unfold wY_step_251
  refine br_f (by decide) ?_
  unfold wY_step_356
  refine (br_f (by decide) (br_f (by decide) (br_f (by decide) (br_f (by decide) (br_f (by decide) (br_f (by decide) (br_f (by decide) (br_f (by decide) (br_f (by decide) (br_f (by decide) (br_t rfl ?_)))))))))))
  refine sy_pb hp hl el hw ?_
  refine ⟨e1, nm_r (by rw [e2]) ?_⟩
  exact sy_795 hp h
theorem sy_t14 {post : Int32 → SY → Prop} {p : Nat} {k : Int32} (hp : p < 4) (h : post 1 (nI np, nI nd, ls, et, nI es, co, ca, upd pc p (pc p + 1), upd ra p (rb p), upd rb p (ra p), sp, mk, dp, sl, lf, su, ql, st, pn, ss, qs, qr, hd, fl, fc, fa, fb, fm, ek, ep, ev, er)) : wY_step_251 post (nI p) 14 k (nI np) (nI nd) ls et (nI es) co ca pc ra rb sp mk dp sl lf su ql st pn ss qs qr hd fl fc fa fb fm ek ep ev er := by
  have e1 : vp_in (nI p) 4 := vp_in_nI hp (by decide)
  have e2 : (nI p).toNatClampNeg = p := nI_clamp (by omega)
  unfold wY_step_251
  refine br_f (by decide) ?_
  unfold wY_step_356
  refine (br_f (by decide) (br_f (by decide) (br_f (by decide) (br_f (by decide) (br_f (by decide) (br_f (by decide) (br_f (by decide) (br_f (by decide) (br_f (by decide) (br_f (by decide) (br_f (by decide) (br_t rfl ?_))))))))))))
  simp only [e1, e2, true_implies, false_implies, not_true_eq_false, not_false_eq_true, and_true, true_and, forall_eq, implies_true]
  exact sy_795 hp h
theorem sy_tN {post : Int32 → SY → Prop} {p : Nat} {o k : Int32} (hp : p < 4) (n1 : ¬ o = 1) (n2 : ¬ o = 2) (n3 : ¬ o = 3) (n6 : ¬ o = 6) (n7 : ¬ o = 7) (n8 : ¬ o = 8) (n9 : ¬ o = 9) (n10 : ¬ o = 10) (n11 : ¬ o = 11) (n12 : ¬ o = 12) (n13 : ¬ o = 13) (n14 : ¬ o = 14) (h : post 1 (nI np, nI nd, ls, et, nI es, co, ca, upd pc p (pc p + 1), ra, rb, sp, mk, dp, sl, lf, su, ql, st, pn, ss, qs, qr, hd, fl, fc, fa, fb, fm, ek, ep, ev, er)) : wY_step_251 post (nI p) o k (nI np) (nI nd) ls et (nI es) co ca pc ra rb sp mk dp sl lf su ql st pn ss qs qr hd fl fc fa fb fm ek ep ev er := by
  unfold wY_step_251
  refine br_f n10 ?_
  unfold wY_step_356
  exact (br_f n6 (br_f n1 (br_f n2 (br_f n3 (br_f n7 (br_f n8 (br_f n9 (br_f n10 (br_f n11 (br_f n12 (br_f n13 (br_f n14 (sy_795 hp h)))))))))))))
end

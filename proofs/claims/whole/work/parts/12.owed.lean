theorem i_vc0 (k0 : Int32) (k1 : Int32) : wpX_init (fun u => wpY_init (fun v => i_Rel 2 u v) k0 k1) k0 k1 := by
  obtain ⟨n0, a1, a2, h0⟩ := sk_clamp k0
  obtain ⟨n1, b1, b2, h1⟩ := sk_clamp k1
  unfold wpX_init
  refine h0 _ ?_
  refine h1 _ ?_
  refine ⟨5, sx_i253 (np := n0) (nd := n1) (es := 0) ?_ 4 0 rfl⟩
  unfold wpY_init
  refine h0 (fun z => wY_init_237 _ k1 z 0 0 0 0 0 (fun _ => 0) (fun _ => 0) (fun _ => 0) (fun _ => 0) (fun _ => 0) (fun _ => 0) (fun _ => 0) (fun _ => 0) (fun _ => 0) (fun _ => 0) (fun _ => 0) (fun _ => 0) (fun _ => 0) (fun _ => 0) (fun _ => 0) (fun _ => 0) (fun _ => 0) (fun _ => 0) (fun _ => 0) (fun _ => 0) (fun _ => 0) (fun _ => 0) (fun _ => 0) (fun _ => 0) (fun _ => 0) (fun _ => 0) (fun _ => 0)) ?_
  unfold wY_init_237
  refine h1 (fun z => ∃ n265 : Nat, wY_init_265 _ (nI n0) z 0 0 0 n265 0 (fun _ => 0) (fun _ => 0) (fun _ => 0) (fun _ => 0) (fun _ => 0) (fun _ => 0) (fun _ => 0) (fun _ => 0) (fun _ => 0) (fun _ => 0) (fun _ => 0) (fun _ => 0) (fun _ => 0) (fun _ => 0) (fun _ => 0) (fun _ => 0) (fun _ => 0) (fun _ => 0) (fun _ => 0) (fun _ => 0) (fun _ => 0) (fun _ => 0) (fun _ => 0) (fun _ => 0) (fun _ => 0) (fun _ => 0) (fun _ => 0)) ?_
  refine ⟨129, sy_i265 (np := n0) (nd := n1) (es := 0) ?_ 128 0 rfl⟩
  exact ⟨n0, sk_mk (sk_inv0 a1 a2 b1 b2)⟩
theorem i_vc_poke {k : Nat} {u : SX} {v : SY} (I : i_Rel k u v) (hk : k + 5 ≤ 2562) (v1 : Int32) (v2 : Int32) (v3 : Int32) (v4 : Int32) : wpX_poke (fun r u' => wpY_poke (fun r' v' => r' = r ∧ i_Rel (k + 5) u' v') v v1 v2 v3 v4) u v1 v2 v3 v4 := by
  obtain ⟨np, nd, es, ls, et, co, ca, pc, ra, rb, sp, mk, dp, fc, fa, fb, fm, sl, st, lf, su, pg, pn, ss, ql, qs, qr, hd, fl, ek, ep, ev, er, rfl, rfl, I⟩ := I
  obtain ⟨r, u, v, R, hX, hY⟩ := sk_poke v1 v2 v3 v4 I
  exact hX _ (hY _ ⟨rfl, np, R⟩)
theorem i_vc_setAction {k : Nat} {u : SX} {v : SY} (I : i_Rel k u v) (hk : k + 5 ≤ 2562) (v1 : Int32) (v2 : Int32) (v3 : Int32) (v4 : Int32) : wpX_setAction (fun r u' => wpY_setAction (fun r' v' => r' = r ∧ i_Rel (k + 5) u' v') v v1 v2 v3 v4) u v1 v2 v3 v4 := by
  obtain ⟨np, nd, es, ls, et, co, ca, pc, ra, rb, sp, mk, dp, fc, fa, fb, fm, sl, st, lf, su, pg, pn, ss, ql, qs, qr, hd, fl, ek, ep, ev, er, rfl, rfl, I⟩ := I
  obtain ⟨r, u, v, R, hX, hY⟩ := sk_seta v1 v2 v3 v4 I
  exact hX _ (hY _ ⟨rfl, np, R⟩)
theorem i_vc_run {k : Nat} {u : SX} {v : SY} (I : i_Rel k u v) (hk : k + 5 ≤ 2562) (v1 : Int32) : wpX_run (fun r u' => wpY_run (fun r' v' => r' = r ∧ i_Rel (k + 5) u' v') v v1) u v1 := by
  obtain ⟨np, nd, es, ls, et, co, ca, pc, ra, rb, sp, mk, dp, fc, fa, fb, fm, sl, st, lf, su, pg, pn, ss, ql, qs, qr, hd, fl, ek, ep, ev, er, rfl, rfl, I⟩ := I
  obtain ⟨r, u, v, R, hX, hY⟩ := sk_run v1 I
  exact hX _ (hY _ ⟨rfl, np, R⟩)
theorem i_vc_send {k : Nat} {u : SX} {v : SY} (I : i_Rel k u v) (hk : k + 5 ≤ 2562) (v1 : Int32) (v2 : Int32) : wpX_send (fun r u' => wpY_send (fun r' v' => r' = r ∧ i_Rel (k + 5) u' v') v v1 v2) u v1 v2 := by
  obtain ⟨np, nd, es, ls, et, co, ca, pc, ra, rb, sp, mk, dp, fc, fa, fb, fm, sl, st, lf, su, pg, pn, ss, ql, qs, qr, hd, fl, ek, ep, ev, er, rfl, rfl, I⟩ := I
  obtain ⟨r, u, v, R, hX, hY⟩ := sk_send v1 v2 I
  obtain ⟨nd1, es1, ls1, et1, co1, ca1, pc1, ra1, rb1, sp1, mk1, dp1, fc1, fa1, fb1, fm1, sl1, st1, lf1, su1, pg1, pn1, ss1, ql1, qs1, qr1, hd1, fl1, ek1, ep1, ev1, er1, rfl, rfl, I1⟩ := R
  refine hX _ ?_
  unfold wpY_send
  refine hY _ ?_
  exact ⟨rfl, np, sk_mk I1⟩
theorem i_vc_state {k : Nat} {u : SX} {v : SY} (I : i_Rel k u v) (hk : k + 5 ≤ 2562) (v1 : Int32) : wpX_state (fun r => wpY_state (fun r' => r' = r ∧ i_Rel (k + 5) u v) v v1) u v1 := by
  obtain ⟨np, nd, es, ls, et, co, ca, pc, ra, rb, sp, mk, dp, fc, fa, fb, fm, sl, st, lf, su, pg, pn, ss, ql, qs, qr, hd, fl, ek, ep, ev, er, rfl, rfl, I⟩ := I
  obtain ⟨r, hX, hY⟩ := sk_state v1 I
  exact hX _ (hY _ ⟨rfl, np, sk_mk I⟩)
theorem i_vc_reg {k : Nat} {u : SX} {v : SY} (I : i_Rel k u v) (hk : k + 5 ≤ 2562) (v1 : Int32) (v2 : Int32) : wpX_reg (fun r => wpY_reg (fun r' => r' = r ∧ i_Rel (k + 5) u v) v v1 v2) u v1 v2 := by
  obtain ⟨np, nd, es, ls, et, co, ca, pc, ra, rb, sp, mk, dp, fc, fa, fb, fm, sl, st, lf, su, pg, pn, ss, ql, qs, qr, hd, fl, ek, ep, ev, er, rfl, rfl, I⟩ := I
  obtain ⟨r, hX, hY⟩ := sk_reg v1 v2 I
  exact hX _ (hY _ ⟨rfl, np, sk_mk I⟩)
theorem i_vc_frame {k : Nat} {u : SX} {v : SY} (I : i_Rel k u v) (hk : k + 5 ≤ 2562) (v1 : Int32) (v2 : Int32) (v3 : Int32) : wpX_frame (fun r => wpY_frame (fun r' => r' = r ∧ i_Rel (k + 5) u v) v v1 v2 v3) u v1 v2 v3 := by
  obtain ⟨np, nd, es, ls, et, co, ca, pc, ra, rb, sp, mk, dp, fc, fa, fb, fm, sl, st, lf, su, pg, pn, ss, ql, qs, qr, hd, fl, ek, ep, ev, er, rfl, rfl, I⟩ := I
  obtain ⟨r, hX, hY⟩ := sk_frame v1 v2 v3 I
  exact hX _ (hY _ ⟨rfl, np, sk_mk I⟩)
theorem i_vc_queued {k : Nat} {u : SX} {v : SY} (I : i_Rel k u v) (hk : k + 5 ≤ 2562) (v1 : Int32) (v2 : Int32) (v3 : Int32) : wpX_queued (fun r => wpY_queued (fun r' => r' = r ∧ i_Rel (k + 5) u v) v v1 v2 v3) u v1 v2 v3 := by
  obtain ⟨np, nd, es, ls, et, co, ca, pc, ra, rb, sp, mk, dp, fc, fa, fb, fm, sl, st, lf, su, pg, pn, ss, ql, qs, qr, hd, fl, ek, ep, ev, er, rfl, rfl, I⟩ := I
  obtain ⟨r, hX, hY⟩ := sk_queued v1 v2 v3 I
  exact hX _ (hY _ ⟨rfl, np, sk_mk I⟩)
theorem i_vc_pendingSerial {k : Nat} {u : SX} {v : SY} (I : i_Rel k u v) (hk : k + 5 ≤ 2562) (v1 : Int32) (v2 : Int32) : wpX_pendingSerial (fun r => wpY_pendingSerial (fun r' => r' = r ∧ i_Rel (k + 5) u v) v v1 v2) u v1 v2 := by
  obtain ⟨np, nd, es, ls, et, co, ca, pc, ra, rb, sp, mk, dp, fc, fa, fb, fm, sl, st, lf, su, pg, pn, ss, ql, qs, qr, hd, fl, ek, ep, ev, er, rfl, rfl, I⟩ := I
  obtain ⟨r, hX, hY⟩ := sk_pendingSerial v1 v2 I
  exact hX _ (hY _ ⟨rfl, np, sk_mk I⟩)
theorem i_vc_getAction {k : Nat} {u : SX} {v : SY} (I : i_Rel k u v) (hk : k + 5 ≤ 2562) (v1 : Int32) (v2 : Int32) (v3 : Int32) : wpX_getAction (fun r => wpY_getAction (fun r' => r' = r ∧ i_Rel (k + 5) u v) v v1 v2 v3) u v1 v2 v3 := by
  obtain ⟨np, nd, es, ls, et, co, ca, pc, ra, rb, sp, mk, dp, fc, fa, fb, fm, sl, st, lf, su, pg, pn, ss, ql, qs, qr, hd, fl, ek, ep, ev, er, rfl, rfl, I⟩ := I
  obtain ⟨r, hX, hY⟩ := sk_getAction v1 v2 v3 I
  exact hX _ (hY _ ⟨rfl, np, sk_mk I⟩)
theorem i_vc_logField {k : Nat} {u : SX} {v : SY} (I : i_Rel k u v) (hk : k + 5 ≤ 2562) (v1 : Int32) (v2 : Int32) : wpX_logField (fun r => wpY_logField (fun r' => r' = r ∧ i_Rel (k + 5) u v) v v1 v2) u v1 v2 := by
  obtain ⟨np, nd, es, ls, et, co, ca, pc, ra, rb, sp, mk, dp, fc, fa, fb, fm, sl, st, lf, su, pg, pn, ss, ql, qs, qr, hd, fl, ek, ep, ev, er, rfl, rfl, I⟩ := I
  obtain ⟨r, hX, hY⟩ := sk_logField v1 v2 I
  exact hX _ (hY _ ⟨rfl, np, sk_mk I⟩)
theorem i_vc_logTotal {k : Nat} {u : SX} {v : SY} (I : i_Rel k u v) (hk : k + 5 ≤ 2562) : wpX_logTotal (fun r => wpY_logTotal (fun r' => r' = r ∧ i_Rel (k + 5) u v) v) u := by
  obtain ⟨np, nd, es, ls, et, co, ca, pc, ra, rb, sp, mk, dp, fc, fa, fb, fm, sl, st, lf, su, pg, pn, ss, ql, qs, qr, hd, fl, ek, ep, ev, er, rfl, rfl, I⟩ := I
  unfold wpX_logTotal wpY_logTotal
  exact ⟨rfl, np, sk_mk I⟩

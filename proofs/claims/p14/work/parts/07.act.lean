/-- the frames of process q are left alone -/
def pv_fr (q : Nat) (fc fa fb fm fc1 fa1 fb1 fm1 : Nat → Int32) : Prop := ∀ i, i < 4 → fc1 (q * 4 + i) = fc (q * 4 + i) ∧ fa1 (q * 4 + i) = fa (q * 4 + i) ∧ fb1 (q * 4 + i) = fb (q * 4 + i) ∧ fm1 (q * 4 + i) = fm (q * 4 + i)
/-- what one step of process p may do -/
def pv_F (p nd m es L : Nat) (R T : Nat → Nat → Prop) (ls : Int32) (pc ra rb sp mk dp fc fa fb fm sl fl ek ep ev er : Nat → Int32) (nd1 es1 : Nat) (ls1 et1 : Int32) (co1 pc1 ra1 rb1 sp1 mk1 dp1 fc1 fa1 fb1 fm1 lf1 pg1 ss1 ql1 qs1 qr1 hd1 ek1 ep1 ev1 er1 : Nat → Int32) : Prop :=
  nd1 = nd ∧ ls1 = ls ∧ pv_X nd co1 dp1 ql1 qs1 hd1 ∧
  (∃ m1, et1 = nI m1 ∧ es1 = min m1 128 ∧ (m1 = m ∨ m1 = m + 1) ∧ (m1 ≤ 128 → pv_GA m1 L lf1 pg1 ss1 ql1 qs1 qr1 ek1 ep1 ev1 er1 R T)) ∧
  (∀ i, i < es → ek1 i = ek i ∧ ep1 i = ep i ∧ ev1 i = ev i ∧ er1 i = er i) ∧
  (∀ q, q < 4 → q ≠ p → dp1 q = dp q ∧ sp1 q = sp q ∧ pc1 q = pc q ∧ ra1 q = ra q ∧ rb1 q = rb q ∧ mk1 q = mk q ∧ pv_fr q fc fa fb fm fc1 fa1 fb1 fm1) ∧
  ((dp1 p = dp p ∧ sp1 p = sp p ∧ pv_fr p fc fa fb fm fc1 fa1 fb1 fm1) ∨
   (∃ d g, dp p = nI d ∧ d < nd ∧ dp1 p = nI (d + 1) ∧ sp1 p = sp p - 4 ∧ 1 ≤ g ∧ g < 32 ∧ fc1 (p * 4 + d) = sk_itC sl pc p (fl (p * 32 + g)) ∧ fa1 (p * 4 + d) = sk_itA sl ra p (fl (p * 32 + g)) ∧ fb1 (p * 4 + d) = rb p ∧ fm1 (p * 4 + d) = mk p ∧ (∀ i, i < 4 → i ≠ d → fc1 (p * 4 + i) = fc (p * 4 + i) ∧ fa1 (p * 4 + i) = fa (p * 4 + i) ∧ fb1 (p * 4 + i) = fb (p * 4 + i) ∧ fm1 (p * 4 + i) = fm (p * 4 + i)) ∧ (es < 128 → ek1 es = 1 ∧ ep1 es = nI p ∧ ev1 es = nI g) ∧ et1 = nI (m + 1)) ∨
   (∃ d, d + 1 ≤ 4 ∧ dp p = nI (d + 1) ∧ dp1 p = nI d ∧ sp1 p = sp p + 4 ∧ pc1 p = fc (p * 4 + d) ∧ ra1 p = fa (p * 4 + d) ∧ rb1 p = fb (p * 4 + d) ∧ mk1 p = fm (p * 4 + d) ∧ pv_fr p fc fa fb fm fc1 fa1 fb1 fm1))
theorem pv_d1 : pv_dl 1 := Or.inl rfl
theorem pv_d2 : pv_dl 2 := Or.inr (Or.inl rfl)
theorem pv_d3 : pv_dl 3 := Or.inr (Or.inr (Or.inl rfl))
theorem pv_d4 : pv_dl 4 := Or.inr (Or.inr (Or.inr rfl))
section
variable {nd es : Nat} {ls et : Int32} {co ca pc ra rb sp mk dp fc fa fb fm sl st lf su pg ss ql qs qr hd fl ek ep ev er : Nat → Int32}
variable {m L p : Nat} {R T : Nat → Nat → Prop}
theorem pv_fr_0 {q : Nat} : pv_fr q fc fa fb fm fc fa fb fm := fun _ _ => ⟨rfl, rfl, rfl, rfl⟩
theorem pv_lgA {f : Nat → Int32} {x : Int32} {i : Nat} (hi : i < es) : sk_lgA f es x i = f i := by
  unfold sk_lgA
  split
  · exact pk_un (by omega)
  · rfl
theorem pv_lgE {f : Nat → Int32} {x : Int32} (h : es < 128) : sk_lgA f es x es = x := by
  unfold sk_lgA
  rw [if_pos h]
  exact pk_us
theorem pv_M_log {lf1 pg1 ss1 ql1 qs1 qr1 : Nat → Int32} {k q v x : Int32} (hm : es = min m 128) (h : m < 128 → pv_GA (m + 1) L lf1 pg1 ss1 ql1 qs1 qr1 (upd ek m k) (upd ep m q) (upd ev m v) (upd er m x) R T) : ∃ m1, nI m + 1 = nI m1 ∧ sk_lgN es = min m1 128 ∧ (m1 = m ∨ m1 = m + 1) ∧ (m1 ≤ 128 → pv_GA m1 L lf1 pg1 ss1 ql1 qs1 qr1 (sk_lgA ek es k) (sk_lgA ep es q) (sk_lgA ev es v) (sk_lgA er es x) R T) := by
  refine ⟨m + 1, nI_1 m, ?_, Or.inr rfl, fun h1 => ?_⟩
  · unfold sk_lgN
    split <;> omega
  · have e : es = m := by omega
    have e2 : m < 128 := by omega
    rw [e]
    simp only [sk_lgA, if_pos e2]
    exact h e2
theorem pv_le {m : Nat} (hm : es = min m 128) : es ≤ 128 := by omega
theorem pv_reg {pc1 ra1 rb1 mk1 hd1 : Nat → Int32} (hx : pv_X nd co dp ql qs hd1) (hm : es = min m 128) (hG : m ≤ 128 → pv_GA m L lf pg ss ql qs qr ek ep ev er R T) (ho : ∀ q, q ≠ p → pc1 q = pc q ∧ ra1 q = ra q ∧ rb1 q = rb q ∧ mk1 q = mk q) : pv_F p nd m es L R T ls pc ra rb sp mk dp fc fa fb fm sl fl ek ep ev er nd es ls (nI m) co pc1 ra1 rb1 sp mk1 dp fc fa fb fm lf pg ss ql qs qr hd1 ek ep ev er :=
  ⟨rfl, rfl, hx, ⟨m, rfl, hm, Or.inl rfl, hG⟩, fun _ _ => ⟨rfl, rfl, rfl, rfl⟩, fun q _ hq => ⟨rfl, rfl, (ho q hq).1, (ho q hq).2.1, (ho q hq).2.2.1, (ho q hq).2.2.2, pv_fr_0⟩, Or.inl ⟨rfl, rfl, pv_fr_0⟩⟩
/-- one event is logged; registers, depth and frames stay -/
theorem pv_ev {k v x : Int32} {pc1 lf1 pg1 ss1 ql1 qs1 qr1 : Nat → Int32} {q : Int32} (hx : pv_X nd co dp ql1 qs1 hd) (hm : es = min m 128) (h : m < 128 → pv_GA (m + 1) L lf1 pg1 ss1 ql1 qs1 qr1 (upd ek m k) (upd ep m q) (upd ev m v) (upd er m x) R T) (ho : ∀ q, q ≠ p → pc1 q = pc q) : pv_F p nd m es L R T ls pc ra rb sp mk dp fc fa fb fm sl fl ek ep ev er nd (sk_lgN es) ls (nI m + 1) co pc1 ra rb sp mk dp fc fa fb fm lf1 pg1 ss1 ql1 qs1 qr1 hd (sk_lgA ek es k) (sk_lgA ep es q) (sk_lgA ev es v) (sk_lgA er es x) :=
  ⟨rfl, rfl, hx, pv_M_log hm h, fun i hi => ⟨pv_lgA hi, pv_lgA hi, pv_lgA hi, pv_lgA hi⟩, fun q _ hq => ⟨rfl, rfl, ho q hq, rfl, rfl, rfl, pv_fr_0⟩, Or.inl ⟨rfl, rfl, pv_fr_0⟩⟩
theorem pv_X_die (hx : pv_X nd co dp ql qs hd) : pv_X nd co dp (upd ql p 0) qs hd := ⟨hx.1, hx.2.1, hx.2.2.1, sk_QL_0 hx.2.2.2.1, hx.2.2.2.2⟩
theorem pv_act {post : St2 → Prop} {g : Nat} {s : Int32} (hp : p < 2) (h1 : 1 ≤ g) (hg : g < 32) (hx : pv_X nd co dp ql qs hd) (hm : es = min m 128)
    (hev : m < 128 → ∀ k v, pv_dl k → (v = nI g ∨ v = 11) → pv_GA (m + 1) L lf pg ss ql qs qr (upd ek m k) (upd ep m (nI p)) (upd ev m v) (upd er m s) R T)
    (K : ∀ {nd1 es1 : Nat} {ls1 et1 : Int32} {co1 ca1 pc1 ra1 rb1 sp1 mk1 dp1 fc1 fa1 fb1 fm1 sl1 st1 lf1 su1 pg1 ss1 ql1 qs1 qr1 hd1 fl1 ek1 ep1 ev1 er1 : Nat → Int32}, pv_F p nd m es L R T ls pc ra rb sp mk dp fc fa fb fm sl fl ek ep ev er nd1 es1 ls1 et1 co1 pc1 ra1 rb1 sp1 mk1 dp1 fc1 fa1 fb1 fm1 lf1 pg1 ss1 ql1 qs1 qr1 hd1 ek1 ep1 ev1 er1 → post (nI 2, nI nd1, ls1, et1, nI es1, co1, ca1, pc1, ra1, rb1, sp1, mk1, dp1, fc1, fa1, fb1, fm1, sl1, st1, lf1, su1, pg1, ss1, ql1, qs1, qr1, hd1, fl1, ek1, ep1, ev1, er1)) : wpX_act post (nI 2, nI nd, ls, nI m, nI es, co, ca, pc, ra, rb, sp, mk, dp, fc, fa, fb, fm, sl, st, lf, su, pg, ss, ql, qs, qr, hd, fl, ek, ep, ev, er) (nI p) (nI g) s := by
  have hs : es ≤ 128 := pv_le hm
  have hp4 : p < 4 := by omega
  have hnd := hx.1.2
  rcases hx.2.2.2.2 (p * 32 + g) with he | he | he
  · exact sx_act_m2 hp4 hg he hs (K (pv_ev hx hm (fun h => hev h 4 _ pv_d4 (Or.inl rfl)) fun _ _ => rfl))
  · by_cases g13 : g = 13
    · subst g13
      exact sx_act_13 hp4 he hs (K (pv_ev hx hm (fun h => hev h 4 _ pv_d4 (Or.inl rfl)) fun _ _ => rfl))
    by_cases g14 : g = 14
    · subst g14
      exact sx_act_14 hp4 he hs (K (pv_ev hx hm (fun h => hev h 4 _ pv_d4 (Or.inl rfl)) fun _ _ => rfl))
    by_cases g12 : g = 12
    · subst g12
      exact sx_act_12 hp4 he hs (K (pv_ev hx hm (fun h => hev h 3 _ pv_d3 (Or.inl rfl)) fun _ _ => rfl))
    by_cases g15 : g = 15
    · subst g15
      exact sx_act_15 hp4 he hs (K (pv_ev hx hm (fun h => hev h 3 _ pv_d3 (Or.inl rfl)) fun _ _ => rfl))
    exact sx_act_die hp4 hg g12 g13 g14 g15 he hs (K (pv_ev (pv_X_die hx) hm (fun h => pv_GA_die hp (Or.inr rfl) (hev h 2 _ pv_d2 (Or.inl rfl))) fun _ _ => rfl))
  · obtain ⟨d, hd4, e⟩ := hx.2.2.1 p hp4
    by_cases hdn : d < nd
    · refine sx_act_ent hp4 hg he e (by omega) hdn hs (K ⟨rfl, rfl, ⟨hx.1, hx.2.1, sk_DP_u hx.2.2.1 (by omega), hx.2.2.2.1, sk_HD_H hx.2.2.2.2⟩, pv_M_log hm (fun h => hev h 1 _ pv_d1 (Or.inl rfl)), fun i hi => ⟨pv_lgA hi, pv_lgA hi, pv_lgA hi, pv_lgA hi⟩, fun q hq4 hq => ?_, Or.inr (Or.inl ⟨d, g, e, hdn, pk_us, pk_us, h1, hg, pk_us, pk_us, pk_us, pk_us, fun i hi hid => ?_, fun hes => ⟨pv_lgE hes, pv_lgE hes, pv_lgE hes⟩, nI_1 m⟩)⟩)
      · refine ⟨pk_un hq, pk_un hq, pk_un hq, pk_un hq, pk_un hq, ?_, fun i hi => ⟨pk_un (by omega), pk_un (by omega), pk_un (by omega), pk_un (by omega)⟩⟩
        unfold sk_mkH
        split
        · exact pk_un hq
        · rfl
      · exact ⟨pk_un (by omega), pk_un (by omega), pk_un (by omega), pk_un (by omega)⟩
    · exact sx_act_over hp4 hg he e hd4 (by omega) hs (K (pv_ev (pv_X_die hx) hm (fun h => pv_GA_die hp (Or.inr rfl) (hev h 2 _ pv_d2 (Or.inr rfl))) fun _ _ => rfl))
theorem pv_deliver {post : Int32 → St2 → Prop} (hp : p < 2) (hL : L < 1000) (hx : pv_X nd co dp ql qs hd) (hm : es = min m 128) (hG : m ≤ 128 → pv_GA m L lf pg ss ql qs qr ek ep ev er R T)
    (K0 : post 0 (nI 2, nI nd, ls, nI m, nI es, co, ca, pc, ra, rb, sp, mk, dp, fc, fa, fb, fm, sl, st, lf, su, pg, ss, ql, qs, qr, hd, fl, ek, ep, ev, er)) (K : ∀ {nd1 es1 : Nat} {ls1 et1 : Int32} {co1 ca1 pc1 ra1 rb1 sp1 mk1 dp1 fc1 fa1 fb1 fm1 sl1 st1 lf1 su1 pg1 ss1 ql1 qs1 qr1 hd1 fl1 ek1 ep1 ev1 er1 : Nat → Int32}, pv_F p nd m es L R T ls pc ra rb sp mk dp fc fa fb fm sl fl ek ep ev er nd1 es1 ls1 et1 co1 pc1 ra1 rb1 sp1 mk1 dp1 fc1 fa1 fb1 fm1 lf1 pg1 ss1 ql1 qs1 qr1 hd1 ek1 ep1 ev1 er1 → post 1 (nI 2, nI nd1, ls1, et1, nI es1, co1, ca1, pc1, ra1, rb1, sp1, mk1, dp1, fc1, fa1, fb1, fm1, sl1, st1, lf1, su1, pg1, ss1, ql1, qs1, qr1, hd1, fl1, ek1, ep1, ev1, er1)) : wpX_deliver post (nI 2, nI nd, ls, nI m, nI es, co, ca, pc, ra, rb, sp, mk, dp, fc, fa, fb, fm, sl, st, lf, su, pg, ss, ql, qs, qr, hd, fl, ek, ep, ev, er) (nI p) := by
  have hp4 : p < 4 := by omega
  rcases sk_sel (fun i => ¬ (pg p &&& (mk p ^^^ (-1))) &&& ((1 : Int32) <<< (nI i &&& 31)) = 0) 1 16 with ⟨g, h1, hg, hn, hmin⟩ | hmin
  · have hb : bt (pg p) g = true := by
      rw [sk_and0 (by omega), b_and] at hn
      cases z : bt (pg p) g
      · rw [z] at hn; exact absurd rfl hn
      · rfl
    unfold wpX_deliver
    refine sx_low hp4 h1 hg hn (fun j a b => Classical.byContradiction fun z => hmin j a b z) ?_
    refine br_f (nI_ne0 h1 (by omega)) ⟨by rw [sk_ix16]; exact vp_in_nI (by omega) (by decide), nm_r (by rw [sk_ix16, nI_clamp (by omega)]) ?_⟩
    refine sx_drop hp4 hg ?_
    exact pv_act (R := R) (T := T) (L := L) hp h1 (by omega) hx hm (fun h k v hk _ => pv_GA_pend hp hL h1 hg hb hk (hG (by omega))) K
  · obtain ⟨l, hl, e, hq⟩ := hx.2.2.2.1 p hp4
    rcases sk_sel (fun j => mk p &&& ((1 : Int32) <<< (qs (p * 8 + j) &&& 31)) = 0) 0 l with ⟨j, _, hj, hxj, hm2⟩ | hm2
    · obtain ⟨g, h1, hg, hqs⟩ := hq j hj
      obtain ⟨l', rfl⟩ : ∃ l', l = l' + 1 := ⟨l - 1, by omega⟩
      unfold wpX_deliver
      refine sx_low0 hp4 (fun j a b => Classical.byContradiction fun z => hmin j a b z) ?_
      refine br_t rfl ?_
      unfold wpX_earliestDeliverable
      refine ⟨j + 1, sx_ear_l hp4 hl e hj hxj ?_ j 0 (by omega) (fun k a b => hm2 k a b)⟩
      refine br_t (nI_pos' (by omega)) (nm_r (sk_ix8 p j) ⟨vp_in_nI (by omega) (by decide), nm_r (e' := nI g) (by rw [nI_clamp (by omega)]; exact hqs) ⟨vp_in_nI (by omega) (by decide), nm_r (e' := qr (p * 8 + j)) (by rw [nI_clamp (by omega)]) ?_⟩⟩)
      refine sx_remove hp4 hl e (by omega) ?_
      have hne : ∀ i, i < j → qs (p * 8 + i) ≠ qs (p * 8 + j) := fun i hi z => hm2 i (by omega) hi (by rw [z]; exact hxj)
      exact pv_act (R := R) (T := T) (L := L) hp h1 hg ⟨hx.1, hx.2.1, hx.2.2.1, sk_QL_r hp4 hx.2.2.2.1 hl e (by omega), hx.2.2.2.2⟩ hm (fun h k v hk hv => pv_GA_rem hp hL hl e (by omega) hne hqs hv hk (hG (by omega))) K
    · unfold wpX_deliver
      refine sx_low0 hp4 (fun j a b => Classical.byContradiction fun z => hmin j a b z) ?_
      refine br_t rfl ?_
      unfold wpX_earliestDeliverable
      refine ⟨l + 1, sx_ear0_l hp4 hl e ?_ l 0 (by omega) (fun k a b => hm2 k a b)⟩
      exact br_f (by decide) K0
end

/-- s joins the set of process p -/
def pv_add (R : Nat → Nat → Prop) (p s : Nat) : Nat → Nat → Prop := fun q t => R q t ∨ (q = p ∧ t = s)
theorem pv_add_s {R : Nat → Nat → Prop} {p s : Nat} : pv_add R p s p = fun t => R p t ∨ t = s := by
  funext t
  exact propext ⟨fun h => h.elim Or.inl (fun y => Or.inr y.2), fun h => h.elim Or.inl (fun y => Or.inr ⟨rfl, y⟩)⟩
theorem pv_add_n {R : Nat → Nat → Prop} {p q s : Nat} (h : q ≠ p) : pv_add R p s q = R q := by
  funext t
  exact propext ⟨fun y => y.elim id (fun z => absurd z.1 h), Or.inl⟩
section
variable {nd es : Nat} {ls et : Int32} {co ca pc ra rb sp mk dp fc fa fb fm sl st lf su pg ss ql qs qr hd fl ek ep ev er : Nat → Int32}
variable {n m L p : Nat} {R T : Nat → Nat → Prop}
theorem pv_AP_L {q : Nat} {R T : Nat → Prop} (h : pv_AP n L lf pg ss ql qs qr ek ep ev er R T q) : pv_AP n (L + 1) lf pg ss ql qs qr ek ep ev er R T q := by
  obtain ⟨l, e, hl, a⟩ := h
  exact ⟨l, e, hl, pv_A_L (Nat.le_succ L) a⟩
theorem pv_GA_mark {g : Nat} (hp : p < 2) (hL : L < 1000) (h1 : 1 ≤ g) (hg : g < 16) (h : pv_GA n L lf pg ss ql qs qr ek ep ev er R T) : pv_GA n (L + 1) lf (upd pg p (pg p ||| ((1 : Int32) <<< (nI g &&& 31)))) (upd ss (p * 16 + g) (nI (L + 1))) ql qs qr ek ep ev er R (pv_add T p (L + 1)) := by
  refine ⟨fun q hq => ?_, h.2⟩
  by_cases e : q = p
  · subst e
    rw [pv_add_s]
    obtain ⟨l, e, hl, a⟩ := h.1 q hq
    refine ⟨l, e, hl, ?_⟩
    rw [pk_us]
    refine pv_A_mark (g0 := g) hL (fun g' a' b' c' => ?_) pk_us a
    by_cases z : g' = g
    · exact Or.inl z
    · rw [b_or, sk_bit (by omega), decide_eq_false z, Bool.or_false] at c'
      exact Or.inr ⟨c', pk_un (by omega)⟩
  · rw [pv_add_n e]
    exact pv_AP_same (pv_sq_d hg e) (pv_AP_L (h.1 q hq))
theorem pv_GA_enq {g l : Nat} (hp : p < 2) (hL : L < 1000) (h1 : 16 ≤ g) (hg : g < 32) (hl : l < 8) (el : ql p = nI l) (h : pv_GA n L lf pg ss ql qs qr ek ep ev er R T) : pv_GA n (L + 1) lf pg ss (upd ql p (nI (l + 1))) (upd qs (p * 8 + l) (nI g)) (upd qr (p * 8 + l) (nI (L + 1))) ek ep ev er (pv_add R p (L + 1)) T := by
  refine ⟨fun q hq => ?_, h.2⟩
  by_cases e : q = p
  · subst e
    rw [pv_add_s]
    obtain ⟨l', e, hl', a⟩ := h.1 q hq
    have : l' = l := (nI_eq (by omega) (by omega)).mp (e.1.symm.trans el)
    subst this
    refine ⟨l' + 1, ⟨pk_us, e.2⟩, by omega, ?_⟩
    exact pv_A_enq (g0 := g) hL h1 hg (fun j hj => ⟨pk_un (by omega), pk_un (by omega)⟩) pk_us pk_us a
  · rw [pv_add_n e]
    refine pv_AP_same ⟨rfl, rfl, pk_un e, fun j hj => ⟨pk_un (by omega), pk_un (by omega)⟩, fun _ _ => rfl⟩ (pv_AP_L (h.1 q hq))
theorem pv_GA_newT (hp : p < 2) (hL : L < 1000) (h : pv_GA n L lf pg ss ql qs qr ek ep ev er R T) : pv_GA n (L + 1) lf pg ss ql qs qr ek ep ev er R (pv_add T p (L + 1)) := by
  refine ⟨fun q hq => ?_, h.2⟩
  by_cases e : q = p
  · subst e
    rw [pv_add_s]
    obtain ⟨l, e, hl, a⟩ := h.1 q hq
    exact ⟨l, e, hl, pv_A_newT hL a⟩
  · rw [pv_add_n e]
    exact pv_AP_L (h.1 q hq)
theorem pv_GA_kill {x : Int32} (hp : p < 2) (hL : L < 999) (h : pv_GA n L lf pg ss ql qs qr ek ep ev er R T) : pv_GA (n + 1) (L + 1) lf pg ss ql qs qr (upd ek n 2) (upd ep n (nI p)) (upd ev n x) (upd er n (nI (L + 1))) R (pv_add T p (L + 1)) := by
  refine pv_GA_ev hp (pv_GA_newT hp (by omega) h) ?_ fun q _ _ => ⟨rfl, rfl, rfl, fun _ _ => ⟨rfl, rfl⟩, fun _ _ => rfl⟩
  obtain ⟨l, e, hl, a⟩ := h.1 p hp
  rw [pv_add_s]
  refine ⟨l, e, hl, ?_⟩
  refine pv_A_evT (by omega) (Or.inr rfl) (pv_new (by omega) a) (fun g x1 x2 x3 z => ?_) pv_d2 (pv_A_newT (by omega) a)
  obtain ⟨s, d, t, _⟩ := a.2.2.1.1 g x1 x2 x3
  have := (a.1.2.1 s t).2
  have : s = L + 1 := (nI_eq (by omega) (by omega)).mp (d.symm.trans z)
  omega
/-- what send leaves behind -/
def pv_Sd (g m L p : Nat) (R T : Nat → Nat → Prop) (r : Int32) (nd es1 : Nat) (ls1 et1 : Int32) (co dp hd lf1 pg1 ss1 ql1 qs1 qr1 ek1 ep1 ev1 er1 : Nat → Int32) : Prop :=
  pv_X nd co dp ql1 qs1 hd ∧ ∃ m1, et1 = nI m1 ∧ es1 = min m1 128 ∧ (m1 = m ∨ m1 = m + 1) ∧
    ((r ≤ 0 ∧ ls1 = nI L ∧ (m1 ≤ 128 → pv_GA m1 L lf1 pg1 ss1 ql1 qs1 qr1 ek1 ep1 ev1 er1 R T)) ∨
     (r = nI (L + 1) ∧ ls1 = nI (L + 1) ∧ g < 16 ∧ (m1 ≤ 128 → pv_GA m1 (L + 1) lf1 pg1 ss1 ql1 qs1 qr1 ek1 ep1 ev1 er1 R (pv_add T p (L + 1)))) ∨
     (r = nI (L + 1) ∧ ls1 = nI (L + 1) ∧ 16 ≤ g ∧ (m1 ≤ 128 → pv_GA m1 (L + 1) lf1 pg1 ss1 ql1 qs1 qr1 ek1 ep1 ev1 er1 (pv_add R p (L + 1)) T)))
theorem pv_121 {post : Int32 → St2 → Prop} {g : Nat} {z r : Int32} (hx : pv_X nd co dp ql qs hd) (hm : es = min m 128)
    (hc : (r ≤ 0 ∧ ls = nI L ∧ (m ≤ 128 → pv_GA m L lf pg ss ql qs qr ek ep ev er R T)) ∨ (r = nI (L + 1) ∧ ls = nI (L + 1) ∧ g < 16 ∧ (m ≤ 128 → pv_GA m (L + 1) lf pg ss ql qs qr ek ep ev er R (pv_add T p (L + 1)))) ∨ (r = nI (L + 1) ∧ ls = nI (L + 1) ∧ 16 ≤ g ∧ (m ≤ 128 → pv_GA m (L + 1) lf pg ss ql qs qr ek ep ev er (pv_add R p (L + 1)) T)))
    (K : ∀ {es1 : Nat} {ls1 et1 : Int32} {ek1 ep1 ev1 er1 : Nat → Int32}, pv_Sd g m L p R T r nd es1 ls1 et1 co dp hd lf pg ss ql qs qr ek1 ep1 ev1 er1 → post r (nI 2, nI nd, ls1, et1, nI es1, co, ca, pc, ra, rb, sp, mk, dp, fc, fa, fb, fm, sl, st, lf, su, pg, ss, ql, qs, qr, hd, fl, ek1, ep1, ev1, er1)) : wX_send_121 post (nI p) z r (nI 2) (nI nd) ls (nI m) (nI es) co ca pc ra rb sp mk dp fc fa fb fm sl st lf su pg ss ql qs qr hd fl ek ep ev er := by
  unfold wX_send_121
  refine br_c (fun _ => K ⟨hx, m, rfl, hm, Or.inl rfl, hc⟩) fun _ => ?_
  refine sx_log (pv_le hm) ?_
  refine K ⟨hx, m + 1, nI_1 m, ?_, Or.inr rfl, ?_⟩
  · unfold sk_lgN
    split <;> omega
  · have key : ∀ (L' : Nat) (R' T' : Nat → Nat → Prop), (m ≤ 128 → pv_GA m L' lf pg ss ql qs qr ek ep ev er R' T') → (m + 1 ≤ 128 → pv_GA (m + 1) L' lf pg ss ql qs qr (sk_lgA ek es 5) (sk_lgA ep es (nI p)) (sk_lgA ev es 14) (sk_lgA er es r) R' T') := fun L' R' T' h h1 => by
      have e : es = m := by omega
      have e2 : m < 128 := by omega
      rw [e]
      simp only [sk_lgA, if_pos e2]
      exact pv_GA_nd (by decide) (h (by omega))
    rcases hc with ⟨a, b, c⟩ | ⟨a, b, c, d⟩ | ⟨a, b, c, d⟩
    · exact Or.inl ⟨a, b, key _ _ _ c⟩
    · exact Or.inr (Or.inl ⟨a, b, c, key _ _ _ d⟩)
    · exact Or.inr (Or.inr ⟨a, b, c, key _ _ _ d⟩)
theorem pv_100 {post : Int32 → St2 → Prop} {g : Nat} {z : Int32} (hp : p < 2) (hL : L < 999) (h1 : 1 ≤ g) (hg : g < 32) (hq : g < 16 ∨ ∃ l, l < 8 ∧ ql p = nI l) (hx : pv_X nd co dp ql qs hd) (hm : es = min m 128) (hG : m ≤ 128 → pv_GA m L lf pg ss ql qs qr ek ep ev er R T)
    (K : ∀ {es1 : Nat} {r ls1 et1 : Int32} {pg1 ss1 ql1 qs1 qr1 ek1 ep1 ev1 er1 : Nat → Int32}, pv_Sd g m L p R T r nd es1 ls1 et1 co dp hd lf pg1 ss1 ql1 qs1 qr1 ek1 ep1 ev1 er1 → post r (nI 2, nI nd, ls1, et1, nI es1, co, ca, pc, ra, rb, sp, mk, dp, fc, fa, fb, fm, sl, st, lf, su, pg1, ss1, ql1, qs1, qr1, hd, fl, ek1, ep1, ev1, er1)) : wX_send_100 post (nI p) (nI g) z (nI 2) (nI nd) (nI L) (nI m) (nI es) co ca pc ra rb sp mk dp fc fa fb fm sl st lf su pg ss ql qs qr hd fl ek ep ev er := by
  have hp4 : p < 4 := by omega
  unfold wX_send_100
  by_cases g16 : g < 16
  · refine br_t (nI_lt (b := 16) g16 (by decide)) ?_
    by_cases y : pg p &&& ((1 : Int32) <<< (nI g &&& 31)) = 0
    · refine sx_mark1 hp4 g16 y ?_
      rw [nI_1 L]
      exact pv_121 (R := R) (T := T) hx hm (Or.inr (Or.inl ⟨rfl, rfl, g16, fun h => pv_GA_mark hp (by omega) h1 g16 (hG h)⟩)) K
    · refine sx_mark0 hp4 y ?_
      exact pv_121 (R := R) (T := T) hx hm (Or.inl ⟨by decide, rfl, hG⟩) K
  · refine br_f (nI_nlt (b := 16) (by omega) (by omega)) ?_
    obtain ⟨l, hl, e⟩ := hq.resolve_left g16
    refine sx_enq hp4 hl e ?_
    rw [nI_1 L]
    exact pv_121 (R := R) (T := T) ⟨hx.1, hx.2.1, hx.2.2.1, sk_QL_a hp4 hx.2.2.2.1 hl e h1 hg, hx.2.2.2.2⟩ hm (Or.inr (Or.inr ⟨rfl, rfl, by omega, fun h => pv_GA_enq hp (by omega) (by omega) hg hl e (hG h)⟩)) K
theorem pv_send {post : Int32 → St2 → Prop} {g : Nat} (hp : p < 2) (hL : L < 999) (h1 : 1 ≤ g) (hg : g < 32) (hx : pv_X nd co dp ql qs hd) (hm : es = min m 128) (hG : m ≤ 128 → pv_GA m L lf pg ss ql qs qr ek ep ev er R T)
    (K : ∀ {es1 : Nat} {r ls1 et1 : Int32} {sl1 st1 lf1 su1 pg1 ss1 ql1 qs1 qr1 ek1 ep1 ev1 er1 : Nat → Int32}, pv_Sd g m L p R T r nd es1 ls1 et1 co dp hd lf1 pg1 ss1 ql1 qs1 qr1 ek1 ep1 ev1 er1 → post r (nI 2, nI nd, ls1, et1, nI es1, co, ca, pc, ra, rb, sp, mk, dp, fc, fa, fb, fm, sl1, st1, lf1, su1, pg1, ss1, ql1, qs1, qr1, hd, fl, ek1, ep1, ev1, er1)) : wpX_send post (nI 2, nI nd, nI L, nI m, nI es, co, ca, pc, ra, rb, sp, mk, dp, fc, fa, fb, fm, sl, st, lf, su, pg, ss, ql, qs, qr, hd, fl, ek, ep, ev, er) (nI p) (nI g) := by
  have hp4 : p < 4 := by omega
  have e1 : vp_in (nI p) 4 := vp_in_nI hp4 (by decide)
  have e2 : (nI p).toNatClampNeg = p := nI_clamp (by omega)
  have K0 : ∀ r : Int32, r ≤ 0 → post r (nI 2, nI nd, nI L, nI m, nI es, co, ca, pc, ra, rb, sp, mk, dp, fc, fa, fb, fm, sl, st, lf, su, pg, ss, ql, qs, qr, hd, fl, ek, ep, ev, er) := fun r hr => K ⟨hx, m, rfl, hm, Or.inl rfl, Or.inl ⟨hr, rfl, hG⟩⟩
  unfold wpX_send
  refine sx_sig1 h1 hg ?_
  refine br_f (by decide) ?_
  by_cases hl : lf p = 0
  · refine sx_al1 (np := 2) hp (by decide) hl ?_
    refine br_f (by decide) ?_
    obtain ⟨l, hl8, el, _⟩ := hx.2.2.2.1 p hp4
    have main : (g < 16 ∨ ∃ l, l < 8 ∧ ql p = nI l) → wX_send_41 post (nI p) (nI g) (nI 2) (nI nd) (nI L) (nI m) (nI es) co ca pc ra rb sp mk dp fc fa fb fm sl st lf su pg ss ql qs qr hd fl ek ep ev er := fun hq => by
      unfold wX_send_41
      by_cases g9 : g = 9
      · subst g9
        refine br_t rfl ?_
        refine sx_serial ?_
        refine sx_term hp4 (pv_le hm) ?_
        refine K ⟨pv_X_die hx, ?_⟩
        rw [nI_1 L]
        obtain ⟨m1, a, b, c, d⟩ := pv_M_log (L := L + 1) (R := R) (T := pv_add T p (L + 1)) (k := 2) (q := nI p) (v := 9) (x := nI (L + 1)) hm (fun h => pv_GA_die (x := 4) hp (Or.inr rfl) (pv_GA_kill (x := 9) hp hL (hG (by omega))))
        exact ⟨m1, a, b, c, Or.inr (Or.inl ⟨rfl, rfl, by decide, d⟩)⟩
      refine br_f (pv_ne (by omega) (by decide) g9) ?_
      by_cases g12 : g = 12
      · subst g12
        refine sx_opp12 hp4 ?_
        refine br_f (by decide) ?_
        unfold wX_send_87 wX_send_88
        exact br_t rfl (pv_100 (R := R) (T := T) hp hL h1 hg hq hx hm (fun h => pv_GA_drop (s := 14) hp (by decide) (hG h)) (fun f => K f))
      by_cases g15 : g = 15
      · subst g15
        refine sx_opp15 hp4 ?_
        refine br_f (by decide) ?_
        unfold wX_send_87 wX_send_88
        exact br_t rfl (pv_100 (R := R) (T := T) hp hL h1 hg hq hx hm (fun h => pv_GA_drop (s := 14) hp (by decide) (hG h)) (fun f => K f))
      by_cases g14 : g = 14
      · subst g14
        refine sx_opp14 hp4 ?_
        refine br_t rfl ⟨e1, br_c (fun _ => ?_) fun _ => ?_⟩
        · unfold wX_send_87 wX_send_88
          exact br_t rfl (pv_100 (R := R) (T := T) hp hL h1 hg hq hx hm (fun h => pv_GA_drop (s := 15) hp (by decide) (pv_GA_drop (s := 12) hp (by decide) (hG h))) (fun f => K f))
        · unfold wX_send_88
          exact br_f (by decide) ⟨e1, nm_e (pv_100 (R := R) (T := T) hp hL h1 hg hq hx hm (fun h => pv_GA_drop (s := 15) hp (by decide) (pv_GA_drop (s := 12) hp (by decide) (hG h))) (fun f => K f))⟩
      refine sx_oppN hg g12 g14 g15 ?_
      refine br_f (pv_ne (by omega) (by decide) g14) ?_
      unfold wX_send_87 wX_send_88
      exact br_t rfl (pv_100 (R := R) (T := T) hp hL h1 hg hq hx hm hG (fun f => K f))
    refine br_c (fun z => main (Or.inl ((nI_ltI (b := 16) (by omega) (by decide)).mp z))) fun _ => ⟨e1, br_c (fun z => ?_) fun _ => K0 _ (by decide)⟩
    rw [e2, el] at z
    exact main (Or.inr ⟨l, (nI_ltI (b := 8) (by omega) (by decide)).mp z, el⟩)
  · refine sx_al2 (np := 2) hp (by decide) hl ?_
    exact br_t rfl (K0 _ (by decide))
end

section
variable {nd es : Nat} {ls et : Int32} {co ca pc ra rb sp mk dp fc fa fb fm sl st lf su pg ss ql qs qr hd fl ek ep ev er : Nat → Int32}
variable {m L : Nat}
theorem pv_lo2 {post J9 : Int32 → Prop} {x1 x3 x5 x7 rt : Int64} {T : Nat → Prop} {p i v a l : Nat} {gq sq : Nat → Int32} (hm : m ≤ 128) (hL : L ≤ 63) (hv1 : 16 ≤ v) (hv2 : v < 32) (ei : pv_E ek ep ev er p i v a) (ra' : pv_B rt a) (hS : pv_S L (pv_B rt) T) (hO : pv_O m l gq sq ek ep ev er (pv_B rt) p) (hGp : pv_G m ek ep ev er (pv_B rt) T p) (h : J9 (nI (i + 1))) : ∀ d j, j + d = m → i < j → wL_logOk_170 post J9 x1 x3 x5 x7 (nI m) (nI i) (nI p) (nI v) (nI a) rt (nI 2) (nI nd) ls (nI m) (nI m) co ca pc ra rb sp mk dp fc fa fb fm sl st lf su pg ss ql qs qr hd fl ek ep ev er (d + 1) (nI j) := by
  intro d
  induction d with
  | zero =>
    intro j hj _
    have hj' : j = m := by omega
    subst hj'
    rw [wL_logOk_170]
    exact br_t (nI_le (Nat.le_refl _) (by omega)) (nm_r (nI_1 i) h)
  | succ d ih =>
    intro j hj hij
    have hh := ih (j + 1) (by omega) (by omega)
    rw [wL_logOk_170]
    refine br_f (nI_ge (by omega) (by omega)) ?_
    refine sx_lf0 (by omega) hm ?_
    refine sx_del (fun z1 => ?_) fun _ => br_t rfl (nm_r (nI_1 j) hh)
    refine br_f (by decide) ?_
    refine sx_lf1 (by omega) hm ?_
    refine br_c (fun z2 => ?_) fun _ => nm_r (nI_1 j) hh
    refine sx_lf2 (by omega) hm ?_
    refine br_c (fun z3 => ?_) fun _ => nm_r (nI_1 j) hh
    refine sx_lf3 (by omega) hm ?_
    have hb : ∃ b, b < 64 ∧ er j = nI b := by
      rcases hGp j (by omega) z1 z2 with ⟨z, _, _⟩ | ⟨s, e, rt'⟩
      · exact ⟨0, by decide, z.trans nI_0.symm⟩
      · refine ⟨s, ?_, e⟩
        rcases rt' with r | r
        · have := (hS.1 s r).2; omega
        · have := (hS.2.1 s r).2; omega
    obtain ⟨b, hb64, eb⟩ := hb
    rw [eb]
    refine pv_has hb64 (fun _ rb' => ?_) fun _ => br_t rfl (nm_r (nI_1 j) hh)
    refine br_f (by decide) ?_
    refine sx_lf3 (by omega) hm ?_
    rw [eb]
    have hab := hO.1 i j v a b hij (by omega) hv1 hv2 ei ⟨z1, z2, z3, eb⟩ ra' rb'
    exact br_t (nI_lt hab (by omega)) (nm_r (nI_1 j) hh)
theorem pv_lo100 {post J9 : Int32 → Prop} {x1 x3 x5 x7 rt st' : Int64} {p i l : Nat} {gq sq : Nat → Int32} (hm : m ≤ 128) (hL : L ≤ 63) (hi : i < m) (hd1 : pv_dl (ek i)) (hd2 : ep i = nI p) (hS : pv_S L (pv_B rt) (pv_B st')) (hO : pv_O m l gq sq ek ep ev er (pv_B rt) p) (hGp : pv_G m ek ep ev er (pv_B rt) (pv_B st') p) (h : J9 (nI (i + 1))) : wL_logOk_100 post J9 x1 x3 x5 x7 (nI m) (nI i) (ek i) (nI p) (ev i) (er i) rt st' (nI 2) (nI nd) ls (nI m) (nI m) co ca pc ra rb sp mk dp fc fa fb fm sl st lf su pg ss ql qs qr hd fl ek ep ev er := by
  unfold wL_logOk_100
  rcases hGp i hi hd1 hd2 with ⟨z, y2, y3⟩ | ⟨s, e, rt'⟩
  · exact br_t z (br_t y2 (br_t y3 (nm_r (nI_1 i) h)))
  · have hs : 1 ≤ s ∧ s ≤ L := rt'.elim (hS.1 s) (hS.2.1 s)
    rw [e]
    refine br_f (nI_ne0 hs.1 (by omega)) ?_
    refine pv_has (by omega) (fun _ _ => ?_) fun z => ?_
    · refine br_f (by decide) (br_c (fun _ => nm_r (nI_1 i) h) fun z16 => br_c (fun _ => nm_r (nI_1 i) h) fun z31 => ?_)
      refine pv_has (by omega) (fun _ ra' => ?_) fun _ => br_t rfl (nm_r (nI_1 i) h)
      refine br_f (by decide) (nm_r (nI_1 i) ?_)
      have hv : ∃ v, 16 ≤ v ∧ v < 32 ∧ ev i = nI v := by
        rcases pk_ix (ev i) (n := 32) (by decide) with y | y | ⟨v, y, ey⟩
        · exact absurd (Int32.lt_trans y (by decide)) z16
        · exact absurd (Int32.lt_of_lt_of_le (by decide) y) z31
        · refine ⟨v, ?_, y, ey⟩
          rw [ey] at z16
          have := z16
          rcases Nat.lt_or_ge v 16 with t | t
          · exact absurd (nI_lt (b := 16) t (by decide)) z16
          · exact t
      obtain ⟨v, hv1, hv2, ev'⟩ := hv
      rw [ev']
      exact ⟨m - (i + 1) + 1, pv_lo2 hm hL hv1 hv2 ⟨hd1, hd2, ev', e⟩ ra' hS hO hGp h (m - (i + 1)) (i + 1) (by omega) (by omega)⟩
    · exfalso
      rcases z with z | z
      · omega
      · exact z ((pv_B_or rt st' s).mpr rt')
theorem pv_lo1 {post : Int32 → Prop} {rt0 st0 rt1 st1 : Int64} (hm : m ≤ 128) (hL : L ≤ 63) (a0 : pv_AP m L lf pg ss ql qs qr ek ep ev er (pv_B rt0) (pv_B st0) 0) (a1 : pv_AP m L lf pg ss ql qs qr ek ep ev er (pv_B rt1) (pv_B st1) 1) (hpid : ∀ i, i < m → pv_dl (ek i) → ep i = nI 0 ∨ ep i = nI 1) (h : post 1) : ∀ d i, i + d = m → wL_logOk_9 post rt0 st0 rt1 st1 (nI m) (nI 2) (nI nd) ls (nI m) (nI m) co ca pc ra rb sp mk dp fc fa fb fm sl st lf su pg ss ql qs qr hd fl ek ep ev er (d + 1) (nI i) := by
  obtain ⟨l0, _, _, s0, _, _, _, o0, g0⟩ := a0
  obtain ⟨l1, _, _, s1, _, _, _, o1, g1⟩ := a1
  intro d
  induction d with
  | zero =>
    intro i hi
    have hi' : i = m := by omega
    subst hi'
    rw [wL_logOk_9]
    exact br_t (nI_le (Nat.le_refl _) (by omega)) h
  | succ d ih =>
    intro i hi
    have hh := ih (i + 1) (by omega)
    rw [wL_logOk_9]
    refine br_f (nI_ge (by omega) (by omega)) ?_
    refine sx_lf0 (by omega) hm ?_
    refine sx_del (fun z1 => ?_) fun _ => br_t rfl (nm_r (nI_1 i) hh)
    refine br_f (by decide) ?_
    refine sx_lf1 (by omega) hm ?_
    refine sx_lf2 (by omega) hm ?_
    refine sx_lf3 (by omega) hm ?_
    rcases hpid i (by omega) z1 with z | z
    · have z' : ep i = 0 := z
      refine br_t z' ?_
      unfold wL_logOk_76
      refine br_t z' ?_
      unfold wL_logOk_87
      refine br_t z' ?_
      rw [z]
      exact pv_lo100 hm hL (by omega) z1 z s0 o0 g0 hh
    · have z' : ep i = 1 := z
      have n0 : ¬ ep i = 0 := by rw [z']; decide
      refine br_f n0 (br_t z' ?_)
      unfold wL_logOk_76
      refine br_f n0 ?_
      unfold wL_logOk_87
      refine br_f n0 ?_
      rw [z]
      exact pv_lo100 hm hL (by omega) z1 z s1 o1 g1 hh
theorem pv_lo {post : Int32 → Prop} {rt0 st0 rt1 st1 : Int64} (hm : m ≤ 128) (hL : L ≤ 63) (a0 : pv_AP m L lf pg ss ql qs qr ek ep ev er (pv_B rt0) (pv_B st0) 0) (a1 : pv_AP m L lf pg ss ql qs qr ek ep ev er (pv_B rt1) (pv_B st1) 1) (hpid : ∀ i, i < m → pv_dl (ek i) → ep i = nI 0 ∨ ep i = nI 1) (h : post 1) : wpL_logOk post (nI 2, nI nd, ls, nI m, nI m, co, ca, pc, ra, rb, sp, mk, dp, fc, fa, fb, fm, sl, st, lf, su, pg, ss, ql, qs, qr, hd, fl, ek, ep, ev, er) rt0 st0 rt1 st1 := by
  unfold wpL_logOk
  refine sx_stored hm ?_
  exact ⟨m + 1, pv_lo1 hm hL a0 a1 hpid h m 0 (by omega)⟩
end

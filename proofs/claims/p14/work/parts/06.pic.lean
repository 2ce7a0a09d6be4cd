/-! the picture of the whole state -/
def pv_X (nd : Nat) (co dp ql qs hd : Nat → Int32) : Prop := (1 ≤ nd ∧ nd ≤ 2) ∧ (∀ j, ¬ co j = 6) ∧ sk_DP dp ∧ sk_QL ql qs ∧ sk_HD hd
def pv_AP (n L : Nat) (lf pg ss ql qs qr ek ep ev er : Nat → Int32) (R T : Nat → Prop) (p : Nat) : Prop := ∃ m, (ql p = nI m ∧ (lf p = 0 ∨ lf p = 3 ∨ lf p = 4)) ∧ m ≤ 8 ∧ pv_A n L (lf p = 0) m (fun j => qs (p * 8 + j)) (fun j => qr (p * 8 + j)) (pg p) (fun g => ss (p * 16 + g)) ek ep ev er R T p
def pv_GA (n L : Nat) (lf pg ss ql qs qr ek ep ev er : Nat → Int32) (R T : Nat → Nat → Prop) : Prop := (∀ p, p < 2 → pv_AP n L lf pg ss ql qs qr ek ep ev er (R p) (T p) p) ∧ (∀ i, i < n → pv_dl (ek i) → ep i = nI 0 ∨ ep i = nI 1)
theorem pv_A_cong {n L m p : Nat} {al al' : Prop} {gq sq sp gq' sq' sp' ek ep ev er : Nat → Int32} {w : Int32} {R T : Nat → Prop} (hq : ∀ j, j < m → gq' j = gq j ∧ sq' j = sq j) (hs : ∀ g, 1 ≤ g → g < 16 → sp' g = sp g) (ha : al' → al) (h : pv_A n L al m gq sq w sp ek ep ev er R T p) : pv_A n L al' m gq' sq' w sp' ek ep ev er R T p := by
  obtain ⟨h1, h2, h3, h4, h5, h6⟩ := h
  refine ⟨h1, ⟨fun j hj => ?_, fun i j a b hij hj e1 e2 ra rb => ?_⟩, ⟨fun g a b c => ?_, fun g g' a b a' b' e c c' => ?_⟩, ⟨h4.1, fun a s r z => ?_⟩, ⟨h5.1, fun i v a j b hi x y e1 ra hj e2 e3 rb => ?_⟩, h6⟩
  · rw [(hq j hj).1, (hq j hj).2]
    exact h2.1 j hj
  · rw [(hq i (by omega)).2] at e1
    rw [(hq j hj).2] at e2
    exact h2.2 i j a b hij hj e1 e2 ra rb
  · rw [hs g a b]
    exact h3.1 g a b c
  · rw [hs g a b, hs g' a' b']
    exact h3.2 g g' a b a' b' e c c'
  · obtain ⟨j, hj, e⟩ := h4.2 (ha a) s r z
    exact ⟨j, hj, (hq j hj).2.trans e⟩
  · rw [(hq j hj).1] at e2
    rw [(hq j hj).2] at e3
    exact h5.2 i v a j b hi x y e1 ra hj e2 e3 rb
section
variable {nd es : Nat} {ls et : Int32} {co ca pc ra rb sp mk dp fc fa fb fm sl st lf su pg ss ql qs qr hd fl ek ep ev er : Nat → Int32}
variable {n m L p : Nat} {R T : Nat → Nat → Prop} {lf1 pg1 ss1 ql1 qs1 qr1 : Nat → Int32}
/-- what belongs to process q is left alone -/
def pv_sq (lf pg ss ql qs qr lf1 pg1 ss1 ql1 qs1 qr1 : Nat → Int32) (q : Nat) : Prop := lf1 q = lf q ∧ pg1 q = pg q ∧ ql1 q = ql q ∧ (∀ j, j < 8 → qs1 (q * 8 + j) = qs (q * 8 + j) ∧ qr1 (q * 8 + j) = qr (q * 8 + j)) ∧ (∀ g, g < 16 → ss1 (q * 16 + g) = ss (q * 16 + g))
theorem pv_AP_same {q : Nat} {R T : Nat → Prop} (ho : pv_sq lf pg ss ql qs qr lf1 pg1 ss1 ql1 qs1 qr1 q) (h : pv_AP n L lf pg ss ql qs qr ek ep ev er R T q) : pv_AP n L lf1 pg1 ss1 ql1 qs1 qr1 ek ep ev er R T q := by
  obtain ⟨o1, o2, o3, o4, o5⟩ := ho
  obtain ⟨l, e, hl, a⟩ := h
  refine ⟨l, ⟨o3.trans e.1, by rw [o1]; exact e.2⟩, hl, ?_⟩
  rw [o2]
  exact pv_A_cong (fun j hj => o4 j (by omega)) (fun g _ hg => o5 g hg) (fun z => o1.symm.trans z) a
theorem pv_AP_other {q : Nat} {R T : Nat → Prop} {k x v s : Int32} (hk : ¬ (pv_dl k ∧ x = nI q)) (h : pv_AP n L lf pg ss ql qs qr ek ep ev er R T q) : pv_AP (n + 1) L lf pg ss ql qs qr (upd ek n k) (upd ep n x) (upd ev n v) (upd er n s) R T q := by
  obtain ⟨l, e, hl, a⟩ := h
  exact ⟨l, e, hl, pv_A_other hk a⟩
theorem pv_ne {a b : Nat} (ha : a < 1000) (hb : b < 1000) (h : a ≠ b) : ¬ nI a = nI b := fun z => h ((nI_eq (by omega) (by omega)).mp z)
/-- process p does something, with one event of its own -/
theorem pv_GA_ev {k v s : Int32} (hp : p < 2) (h : pv_GA n L lf pg ss ql qs qr ek ep ev er R T) (hn : pv_AP (n + 1) L lf1 pg1 ss1 ql1 qs1 qr1 (upd ek n k) (upd ep n (nI p)) (upd ev n v) (upd er n s) (R p) (T p) p) (ho : ∀ q, q < 2 → q ≠ p → pv_sq lf pg ss ql qs qr lf1 pg1 ss1 ql1 qs1 qr1 q) : pv_GA (n + 1) L lf1 pg1 ss1 ql1 qs1 qr1 (upd ek n k) (upd ep n (nI p)) (upd ev n v) (upd er n s) R T := by
  refine ⟨fun q hq => ?_, fun i hi => ?_⟩
  · by_cases e : q = p
    · subst e; exact hn
    · exact pv_AP_other (fun y => pv_ne (by omega) (by omega) (fun z => e z.symm) y.2) (pv_AP_same (ho q hq e) (h.1 q hq))
  · by_cases e : i = n
    · subst e
      rw [pk_us, pk_us]
      intro _
      have : p = 0 ∨ p = 1 := by omega
      rcases this with rfl | rfl
      · exact Or.inl rfl
      · exact Or.inr rfl
    · rw [pk_un e, pk_un e]
      exact h.2 i (by omega)
theorem pv_GA_no (h : pv_GA n L lf pg ss ql qs qr ek ep ev er R T) (hn : pv_AP n L lf1 pg1 ss1 ql1 qs1 qr1 ek ep ev er (R p) (T p) p) (ho : ∀ q, q < 2 → q ≠ p → pv_sq lf pg ss ql qs qr lf1 pg1 ss1 ql1 qs1 qr1 q) : pv_GA n L lf1 pg1 ss1 ql1 qs1 qr1 ek ep ev er R T := by
  refine ⟨fun q hq => ?_, h.2⟩
  by_cases e : q = p
  · subst e; exact hn
  · exact pv_AP_same (ho q hq e) (h.1 q hq)
/-- an event that delivers nothing -/
theorem pv_GA_nd {k x v s : Int32} (hk : ¬ pv_dl k) (h : pv_GA n L lf pg ss ql qs qr ek ep ev er R T) : pv_GA (n + 1) L lf pg ss ql qs qr (upd ek n k) (upd ep n x) (upd ev n v) (upd er n s) R T := by
  refine ⟨fun q hq => pv_AP_other (fun y => hk y.1) (h.1 q hq), fun i hi => ?_⟩
  by_cases e : i = n
  · subst e
    rw [pk_us]
    exact fun y => absurd y hk
  · rw [pk_un e, pk_un e]
    exact h.2 i (by omega)
theorem pv_sq_die {q : Nat} {x : Int32} (hq : q ≠ p) : pv_sq lf pg ss ql qs qr (upd lf p x) (upd pg p 0) (sk_clr ss (p * 16) 16) (upd ql p 0) qs qr q :=
  ⟨pk_un hq, pk_un hq, pk_un hq, fun _ _ => ⟨rfl, rfl⟩, fun g hg => sk_clr_out 16 (by omega)⟩
theorem pv_GA_die {x : Int32} (hp : p < 2) (hx : x = 3 ∨ x = 4) (h : pv_GA n L lf pg ss ql qs qr ek ep ev er R T) : pv_GA n L (upd lf p x) (upd pg p 0) (sk_clr ss (p * 16) 16) (upd ql p 0) qs qr ek ep ev er R T := by
  refine pv_GA_no (p := p) h ?_ fun q _ hq => pv_sq_die hq
  obtain ⟨l, e, hl, a⟩ := h.1 p hp
  refine ⟨0, ⟨by rw [pk_us]; exact nI_0.symm, by rw [pk_us]; exact Or.inr hx⟩, by omega, ?_⟩
  rw [pk_us, pk_us]
  exact pv_A_die a _ (fun z => by subst z; exact absurd hx (by decide)) _ _ _
theorem pv_GA_zero (hp : p < 2) (hL : L < 1000) (h : pv_GA n L lf pg ss ql qs qr ek ep ev er R T) : pv_GA (n + 1) L lf pg ss ql qs qr (upd ek n 2) (upd ep n (nI p)) (upd ev n 11) (upd er n 0) R T := by
  refine pv_GA_ev hp h ?_ fun q _ _ => ⟨rfl, rfl, rfl, fun _ _ => ⟨rfl, rfl⟩, fun _ _ => rfl⟩
  obtain ⟨l, e, hl, a⟩ := h.1 p hp
  exact ⟨l, e, hl, pv_A_zero hL a⟩
/-- bits of the pending word behind a drop -/
theorem pv_bit_d {s g : Nat} (hs : s < 16) (hg : g < 16) : bt (pg p &&& (((1 : Int32) <<< (nI s &&& 31)) ^^^ (-1))) g = (bt (pg p) g && !decide (g = s)) := by
  rw [b_and, sk_not _ (by omega), sk_bit (by omega)]
theorem pv_sub_d {s : Nat} (hs : s < 16) : ∀ g, 1 ≤ g → g < 16 → bt (upd pg p (pg p &&& (((1 : Int32) <<< (nI s &&& 31)) ^^^ (-1))) p) g = true → (g ≠ s ∧ bt (pg p) g = true ∧ upd ss (p * 16 + s) 0 (p * 16 + g) = ss (p * 16 + g)) := by
  intro g _ hg h
  rw [pk_us, pv_bit_d hs hg] at h
  by_cases e : g = s
  · rw [decide_eq_true e] at h
    simp at h
  · rw [decide_eq_false e] at h
    exact ⟨e, by simpa using h, pk_un (by omega)⟩
theorem pv_sq_d {q s : Nat} (hs : s < 16) (hq : q ≠ p) {x y : Int32} : pv_sq lf pg ss ql qs qr lf (upd pg p x) (upd ss (p * 16 + s) y) ql qs qr q :=
  ⟨rfl, pk_un hq, rfl, fun _ _ => ⟨rfl, rfl⟩, fun g hg => pk_un (by omega)⟩
/-- a pending signal is dropped -/
theorem pv_GA_drop {s : Nat} (hp : p < 2) (hs : s < 16) (h : pv_GA n L lf pg ss ql qs qr ek ep ev er R T) : pv_GA n L lf (upd pg p (pg p &&& (((1 : Int32) <<< (nI s &&& 31)) ^^^ (-1)))) (upd ss (p * 16 + s) 0) ql qs qr ek ep ev er R T := by
  refine pv_GA_no (p := p) h ?_ fun q _ hq => pv_sq_d hs hq
  obtain ⟨l, e, hl, a⟩ := h.1 p hp
  exact ⟨l, e, hl, pv_A_sub (fun g a b c => (pv_sub_d hs g a b c).2) a⟩
/-- a pending signal is delivered -/
theorem pv_GA_pend {g : Nat} {k v : Int32} (hp : p < 2) (hL : L < 1000) (h1 : 1 ≤ g) (hg : g < 16) (hb : bt (pg p) g = true) (hk : pv_dl k) (h : pv_GA n L lf pg ss ql qs qr ek ep ev er R T) : pv_GA (n + 1) L lf (upd pg p (pg p &&& (((1 : Int32) <<< (nI g &&& 31)) ^^^ (-1)))) (upd ss (p * 16 + g) 0) ql qs qr (upd ek n k) (upd ep n (nI p)) (upd ev n v) (upd er n (ss (p * 16 + g))) R T := by
  refine pv_GA_ev hp h ?_ fun q _ hq => pv_sq_d hg hq
  obtain ⟨l, e, hl, a⟩ := h.1 p hp
  obtain ⟨s, d, t, z⟩ := a.2.2.1.1 g h1 hg hb
  refine ⟨l, e, hl, ?_⟩
  dsimp only at d
  rw [d]
  refine pv_A_evT hL t z (fun g' a' b' c' => ?_) hk (pv_A_sub (fun g a b c => (pv_sub_d hg g a b c).2) a)
  obtain ⟨x, y, w⟩ := pv_sub_d (ss := ss) hg g' a' b' c'
  rw [w]
  have hh := a.2.2.1.2 g' g a' b' h1 hg x y hb
  dsimp only at hh
  rw [d] at hh
  exact hh
theorem pv_GA_rem {l j g : Nat} {k v : Int32} (hp : p < 2) (hL : L < 1000) (hl : l + 1 ≤ 8) (el : ql p = nI (l + 1)) (hj : j ≤ l) (hm : ∀ i, i < j → qs (p * 8 + i) ≠ qs (p * 8 + j)) (hq : qs (p * 8 + j) = nI g) (hv : v = nI g ∨ v = 11) (hk : pv_dl k) (h : pv_GA n L lf pg ss ql qs qr ek ep ev er R T) : pv_GA (n + 1) L lf pg ss (upd ql p (nI l)) (sk_shf qs (p * 8 + j) (l - j)) (sk_shf qr (p * 8 + j) (l - j)) (upd ek n k) (upd ep n (nI p)) (upd ev n v) (upd er n (qr (p * 8 + j))) R T := by
  refine pv_GA_ev hp h ?_ fun q _ hq' => ⟨rfl, rfl, pk_un hq', fun i hi => ⟨sk_shf_hi _ (by omega), sk_shf_hi _ (by omega)⟩, fun _ _ => rfl⟩
  obtain ⟨l', e, hl', a⟩ := h.1 p hp
  have : l' = l + 1 := (nI_eq (by omega) (by omega)).mp (e.1.symm.trans el)
  subst this
  obtain ⟨g', s, _, _, _, d, r, _⟩ := a.2.1.1 j (by omega)
  dsimp only at d
  refine ⟨l, ⟨pk_us, e.2⟩, by omega, ?_⟩
  rw [d]
  refine pv_A_rem (j0 := j) hL (by omega) d r (fun i hi => ?_) (fun i h1 h2 => ?_) hm (by rw [hq]; exact hv) hk a
  · exact ⟨sk_shf_hi _ (by omega), sk_shf_hi _ (by omega)⟩
  · have e1 := sk_shf_in (f := qs) (b := p * 8 + j) (j := i - j) (l - j) (by omega)
    have e2 := sk_shf_in (f := qr) (b := p * 8 + j) (j := i - j) (l - j) (by omega)
    rw [show p * 8 + j + (i - j) = p * 8 + i by omega] at e1 e2
    exact ⟨e1, e2⟩
end

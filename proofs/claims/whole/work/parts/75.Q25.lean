/-! the ways of a pass: there is a best, a number, a class, and only one of each -/
section LQ
theorem lq_ex {α : Type} {lt : α → α → Prop} (ho : qb_O lt) (K : Nat → Option α) : ∀ N, ∃ r, qb_is lt K N r
  | 0 => ⟨none, qb_0⟩
  | N + 1 => by
    obtain ⟨r, hr⟩ := lq_ex ho K N
    cases hk : K N with
    | none => exact ⟨r, qb_n hr hk⟩
    | some x =>
      cases r with
      | none => exact ⟨_, qb_f ho hr hk⟩
      | some z =>
        obtain ⟨i, w⟩ := z
        rcases Classical.em (lt x w) with q | q
        · exact ⟨_, qb_b ho hr hk q⟩
        · exact ⟨_, qb_k hr hk q⟩
variable {QX : Nat → Nat → Nat → Option (Nat × qx_V)} {B : Nat}
theorem lq_min (hle : ∀ n z y, z < 4 → QX n B z = some y → n ≤ B) {n1 z1 : Nat} (h1 : 1 ≤ n1) (hz1 : z1 < 4) (hw : ¬ QX n1 B z1 = none) : ∃ m, kw_min QX B m := by
  obtain ⟨r, hr⟩ := lq_ex (qx_O 3) (fun i => (QX (i / 4 + 1) B (i % 4)).map Prod.snd) (4 * B)
  cases r with
  | none =>
    cases e : QX n1 B z1 with
    | none => exact absurd e hw
    | some y =>
      have hn := hle n1 z1 y hz1 e
      have hj : (4 * (n1 - 1) + z1) / 4 + 1 = n1 ∧ (4 * (n1 - 1) + z1) % 4 = z1 ∧ 4 * (n1 - 1) + z1 < 4 * B := by omega
      have := hr (4 * (n1 - 1) + z1) hj.2.2
      simp only [hj.1, hj.2.1, e] at this
      cases this
  | some x =>
    obtain ⟨i, w⟩ := x
    obtain ⟨a1, a2, a3⟩ := hr
    have a2 : (QX (i / 4 + 1) B (i % 4)).map Prod.snd = some w := a2
    cases e : QX (i / 4 + 1) B (i % 4) with
    | none => rw [e] at a2; cases a2
    | some y =>
      rw [e] at a2
      obtain ⟨p, w2⟩ := y
      have e2 : w2 = w := Option.some.inj a2
      subst e2
      refine ⟨i / 4 + 1, by omega, i % 4, p, w2, by omega, e, fun n z2 hn hz2 q v hv => ?_⟩
      have hnB := hle n z2 _ hz2 hv
      have hj : (4 * (n - 1) + z2) / 4 + 1 = n ∧ (4 * (n - 1) + z2) % 4 = z2 ∧ 4 * (n - 1) + z2 < 4 * B := by omega
      obtain ⟨b1, b2⟩ := a3 (4 * (n - 1) + z2) hj.2.2 v (by simp only [hj.1, hj.2.1, hv]; rfl)
      exact ⟨b1, fun h => b2 (by show _ < i; omega), fun h1 h2 => b2 (by show _ < i; omega)⟩
theorem lq_minu {m m2 : Nat} (h : kw_min QX B m) (h2 : kw_min QX B m2) : m = m2 := by
  obtain ⟨a1, z, p, w, hz, hx, hm⟩ := h
  obtain ⟨b1, z2, p2, w2, hz2, hx2, hm2⟩ := h2
  rcases Nat.lt_trichotomy m m2 with q | q | q
  · exact absurd ((hm2 m z a1 hz p w hx).2.1 q) (hm m2 z2 b1 hz2 p2 w2 hx2).1
  · exact q
  · exact absurd ((hm m2 z2 b1 hz2 p2 w2 hx2).2.1 q) (hm2 m z a1 hz p w hx).1
theorem lq_row {N z1 : Nat} (hz1 : z1 < 4) (hw : ¬ QX N B z1 = none) : ∃ z, kw_row QX B N z := by
  obtain ⟨r, hr⟩ := lq_ex (qx_O 3) (fun i => (QX N B i).map Prod.snd) 4
  cases r with
  | none =>
    cases e : QX N B z1 with
    | none => exact absurd e hw
    | some y =>
      have := hr z1 hz1
      simp only [e] at this
      cases this
  | some x =>
    obtain ⟨i, w⟩ := x
    obtain ⟨a1, a2, a3⟩ := hr
    have a1 : i < 4 := a1
    have a2 : (QX N B i).map Prod.snd = some w := a2
    cases e : QX N B i with
    | none => rw [e] at a2; cases a2
    | some y =>
      rw [e] at a2
      obtain ⟨p, w2⟩ := y
      have e2 : w2 = w := Option.some.inj a2
      subst e2
      exact ⟨i, a1, p, w2, e, fun z2 hz2 q v hv => a3 z2 hz2 v (by simp only [hv]; rfl)⟩
theorem lq_rowu {N z z2 : Nat} (h : kw_row QX B N z) (h2 : kw_row QX B N z2) : z = z2 := by
  obtain ⟨hz, p, w, hx, hm⟩ := h
  obtain ⟨hz2, p2, w2, hx2, hm2⟩ := h2
  rcases Nat.lt_trichotomy z z2 with q | q | q
  · exact absurd ((hm2 z hz p w hx).2 q) (hm z2 hz2 p2 w2 hx2).1
  · exact q
  · exact absurd ((hm z2 hz2 p2 w2 hx2).2 q) (hm2 z hz p w hx).1
def lq_some (QX : Nat → Nat → Nat → Option (Nat × qx_V)) (B n : Nat) : Prop := ∃ z, z < 4 ∧ ¬ QX n B z = none
theorem lq_nsome {n : Nat} (h : ¬ lq_some QX B n) : ∀ z, z < 4 → QX n B z = none := fun z hz => by
  cases e : QX n B z with
  | none => rfl
  | some y => exact absurd ⟨z, hz, by rw [e]; exact fun q => nomatch q⟩ h
theorem lq_up {m : Nat} (h : lq_some QX B m) : ∀ d, ∃ N, m ≤ N ∧ N ≤ m + d ∧ lq_some QX B N ∧ ∀ k, N < k → k ≤ m + d → ∀ z, z < 4 → QX k B z = none
  | 0 => ⟨m, Nat.le_refl _, Nat.le_refl _, h, fun k h1 h2 => absurd h1 (by omega)⟩
  | d + 1 => by
    rcases Classical.em (lq_some QX B (m + (d + 1))) with q | q
    · exact ⟨m + (d + 1), by omega, by omega, q, fun k h1 h2 => absurd h1 (by omega)⟩
    · obtain ⟨N, a1, a2, a3, a4⟩ := lq_up h d
      exact ⟨N, a1, by omega, a3, fun k h1 h2 => (show k ≤ m + d ∨ k = m + (d + 1) by omega).elim (fun h => a4 k h1 h) (fun h => by rw [h]; exact lq_nsome q)⟩
theorem lq_dn {m : Nat} (h : lq_some QX B m) : ∀ d, ∃ N, m - d ≤ N ∧ N ≤ m ∧ lq_some QX B N ∧ ∀ k, m - d ≤ k → k < N → ∀ z, z < 4 → QX k B z = none
  | 0 => ⟨m, by omega, Nat.le_refl _, h, fun k h1 h2 => absurd h1 (by omega)⟩
  | d + 1 => by
    rcases Classical.em (lq_some QX B (m - (d + 1))) with q | q
    · exact ⟨m - (d + 1), by omega, by omega, q, fun k h1 h2 => absurd h1 (by omega)⟩
    · obtain ⟨N, a1, a2, a3, a4⟩ := lq_dn h d
      exact ⟨N, by omega, a2, a3, fun k h1 h2 => (show m - d ≤ k ∨ k = m - (d + 1) by omega).elim (fun h => a4 k h h2) (fun h => by rw [h]; exact lq_nsome q)⟩
theorem lq_num {m goal : Nat} (hm : kw_min QX B m) (hg : 1 ≤ goal) : ∃ N, kw_num QX B m goal N ∧ 1 ≤ N ∧ lq_some QX B N := by
  have hs : lq_some QX B m := by
    obtain ⟨_, z, p, w, hz, hx, _⟩ := hm
    exact ⟨z, hz, by rw [hx]; exact fun q => nomatch q⟩
  have h1 := hm.1
  rcases Nat.lt_trichotomy goal m with q | q | q
  · obtain ⟨N, a1, a2, a3, a4⟩ := lq_dn hs (m - goal)
    rw [show m - (m - goal) = goal by omega] at a1 a4
    exact ⟨N, ⟨fun h => absurd h (by omega), fun h => absurd h (by omega), fun _ => ⟨a1, a2, a4⟩⟩, by omega, a3⟩
  · exact ⟨m, ⟨fun _ => rfl, fun h => absurd h (by omega), fun h => absurd h (by omega)⟩, h1, hs⟩
  · obtain ⟨N, a1, a2, a3, a4⟩ := lq_up hs (goal - m)
    rw [show m + (goal - m) = goal by omega] at a2 a4
    exact ⟨N, ⟨fun h => absurd h (by omega), fun _ => ⟨a1, a2, a4⟩, fun h => absurd h (by omega)⟩, by omega, a3⟩
theorem lq_rs {N z : Nat} (h : kw_row QX B N z) : lq_some QX B N := by
  obtain ⟨hz, p, w, hx, _⟩ := h
  exact ⟨z, hz, by rw [hx]; exact fun q => nomatch q⟩
theorem lq_numu {m goal N N2 : Nat} (h : kw_num QX B m goal N) (h2 : kw_num QX B m goal N2) (s : lq_some QX B N) (s2 : lq_some QX B N2) : N = N2 := by
  obtain ⟨z, hz, hw⟩ := s
  obtain ⟨z2, hz2, hw2⟩ := s2
  rcases Nat.lt_trichotomy goal m with q | q | q
  · have a := h.2.2 q
    have b := h2.2.2 q
    rcases Nat.lt_trichotomy N N2 with r | r | r
    · exact absurd (b.2.2 N a.1 r z hz) hw
    · exact r
    · exact absurd (a.2.2 N2 b.1 r z2 hz2) hw2
  · rw [h.1 q, h2.1 q]
  · have a := h.2.1 q
    have b := h2.2.1 q
    rcases Nat.lt_trichotomy N N2 with r | r | r
    · exact absurd (a.2.2 N2 r b.2.1 z2 hz2) hw2
    · exact r
    · exact absurd (b.2.2 N r a.2.1 z hz) hw
/-- what both find in a pass -/
def lq_W (QX : Nat → Nat → Nat → Option (Nat × qx_V)) (B : Nat) (q : Int) (n0 GO NL zL : Nat) : Prop := kw_min QX B n0 ∧ (GO : Int) = max 1 (min (B : Int) ((n0 : Int) + q)) ∧ kw_num QX B n0 GO NL ∧ 1 ≤ NL ∧ NL ≤ B ∧ kw_row QX B NL zL ∧ n0 ≤ B
theorem lq_Wex {q : Int} {n1 z1 : Nat} (hle : ∀ n z y, z < 4 → QX n B z = some y → n ≤ B) (h1 : 1 ≤ n1) (hz1 : z1 < 4) (hw : ¬ QX n1 B z1 = none) : ∃ n0 GO NL zL, lq_W QX B q n0 GO NL zL := by
  obtain ⟨n0, hm⟩ := lq_min hle h1 hz1 hw
  obtain ⟨N, a1, a2, a3⟩ := lq_num (goal := (max 1 (min (B : Int) ((n0 : Int) + q))).toNat) hm (by omega)
  obtain ⟨z, hz, hwz⟩ := a3
  obtain ⟨zL, hzL⟩ := lq_row hz hwz
  refine ⟨n0, _, N, zL, hm, by omega, a1, a2, ?_, hzL, ?_⟩
  · cases e : QX N B z with
    | none => exact absurd e hwz
    | some y => exact hle N z y hz e
  · obtain ⟨_, z9, p9, w9, hz9, hx9, _⟩ := hm
    exact hle n0 z9 _ hz9 hx9
theorem lq_Wu {q : Int} {n0 GO NL zL N2 z2 : Nat} (h : lq_W QX B q n0 GO NL zL) (hn : kw_num QX B n0 GO N2) (hr : kw_row QX B N2 z2) : N2 = NL ∧ z2 = zL := by
  have e := lq_numu hn h.2.2.1 (lq_rs hr) (lq_rs h.2.2.2.2.2.1)
  subst e
  exact ⟨rfl, lq_rowu hr h.2.2.2.2.2.1⟩
theorem lq_Wm {q : Int} {n0 GO NL zL m : Nat} (h : lq_W QX B q n0 GO NL zL) (hm : kw_min QX B m) : m = n0 := lq_minu hm h.1
theorem lq_Wn {q : Int} {n0 GO NL zL : Nat} (h : lq_W QX B q n0 GO NL zL) : ¬ ∀ n z, 1 ≤ n → z < 4 → QX n B z = none := fun hq => by
  obtain ⟨hz, p, w, hx, _⟩ := h.2.2.2.2.2.1
  rw [hq NL zL h.2.2.2.1 hz] at hx
  cases hx
end LQ
/-! how the rows grow over the passes -/
def lq_n (F : Nat → Nat) (most len a : Nat) : Nat → Nat
  | 0 => len
  | k + 1 => kg_n (lq_n F most len a k) (F (a + k)) most
theorem lq_ns {F : Nat → Nat} {most len a p : Nat} (h : a ≤ p) : lq_n F most len a (p + 1 - a) = kg_n (lq_n F most len a (p - a)) (F p) most := by
  rw [show p + 1 - a = (p - a) + 1 by omega]
  show kg_n (lq_n F most len a (p - a)) (F (a + (p - a))) most = _
  rw [show a + (p - a) = p by omega]
theorem lq_n0 {F : Nat → Nat} {most len a : Nat} : lq_n F most len a (a - a) = len := by
  rw [Nat.sub_self]
  rfl
def lq_P (lk lt lw zb zn : Nat) : Nat := 7 * rp_f 401 lk + 2 * rp_f 401 lt + rp_f 641600 lw + 4 * rp_f 1604 zb + 4 * rp_f 1604 zn
theorem lq_sw {lk lt lw zb zn : Nat} : lq_P lk lt lw zb zn = lq_P lk lt lw zn zb := by
  unfold lq_P
  omega
theorem lq_step {lk lt lw zb zn nd b1 p1 l1 l2 : Nat} (h1 : lk ≤ 401) (h2 : lt ≤ 401) (h3 : lw ≤ 641600) (h4 : zb ≤ 1604) (h5 : zn ≤ 1604) (n1 : nd ≤ 401) (n2 : b1 ≤ 401) (n3 : l1 ≤ 641600) (n4 : p1 ≤ 1604) (n5 : l2 ≤ 641600) :
    kg_s lk nd 401 7 + (kg_s lt b1 401 2 + kg_s lw l1 641600 1 + kg_s zb p1 1604 4 + kg_s zn p1 1604 4) + kg_s (kg_n lw l1 641600) l2 641600 1 + lq_P lk lt lw zb zn ≤ lq_P (kg_n lk nd 401) (kg_n lt b1 401) (kg_n (kg_n lw l1 641600) l2 641600) (kg_n zb p1 1604) (kg_n zn p1 1604) ∧ kg_n lk nd 401 ≤ 401 ∧ kg_n lt b1 401 ≤ 401 ∧ kg_n (kg_n lw l1 641600) l2 641600 ≤ 641600 ∧ kg_n zb p1 1604 ≤ 1604 ∧ kg_n zn p1 1604 ≤ 1604 := by
  obtain ⟨a1, b1⟩ := rp_s h1 n1
  obtain ⟨a2, b2⟩ := rp_s h2 n2
  obtain ⟨a3, b3⟩ := rp_s h3 n3
  obtain ⟨a4, b4⟩ := rp_s h4 n4
  obtain ⟨a5, b5⟩ := rp_s h5 n4
  obtain ⟨a6, b6⟩ := rp_s b3 n5
  refine ⟨?_, b1, b2, b6, b4, b5⟩
  unfold lq_P
  rw [rp_k (k := 7), rp_k (k := 2), rp_k (len := zb) (k := 4), rp_k (len := zn) (k := 4)]
  omega
theorem lq_c {len need k : Nat} : kg_c len need k ≤ k := by
  unfold kg_c
  split <;> omega
theorem lq_kg0 {len most : Nat} : kg_n len 0 most = len := if_pos (Nat.zero_le _)
theorem lq_mul {B mc : Nat} (hB : B ≤ 400) : min B mc * ((B + 1) * 4) ≤ 641600 := by
  have : min B mc * ((B + 1) * 4) ≤ 400 * 1604 := Nat.mul_le_mul (by omega) (by omega)
  omega
theorem lq_mul2 {B l : Nat} (hB : B ≤ 400) (hl : l ≤ 400) : l * ((B + 1) * 4) ≤ 641600 := by
  have : l * ((B + 1) * 4) ≤ 400 * 1604 := Nat.mul_le_mul hl (by omega)
  omega
theorem lq_nb {F : Nat → Nat} {most len a : Nat} (hl : len ≤ most) (hF : ∀ p, F p ≤ most) : ∀ k, lq_n F most len a k ≤ most
  | 0 => hl
  | k + 1 => (rp_s (lq_nb hl hF k) (hF _)).2
theorem lq_rm {len need most : Nat} (hl : len ≤ most) (hn : need ≤ most) : rp_f most len ≤ rp_f most (kg_n len need most) := by
  have := (rp_s hl hn).1
  omega
theorem lq_nm {F : Nat → Nat} {most len a : Nat} (hl : len ≤ most) (hF : ∀ p, F p ≤ most) {k k2 : Nat} (h : k ≤ k2) : rp_f most (lq_n F most len a k) ≤ rp_f most (lq_n F most len a k2) := by
  induction k2 with
  | zero => rw [show k = 0 by omega]; exact Nat.le_refl _
  | succ j ih =>
    rcases (show k ≤ j ∨ k = j + 1 by omega) with q | q
    · exact Nat.le_trans (ih q) (lq_rm (lq_nb hl hF j) (hF _))
    · rw [q]; exact Nat.le_refl _
/-- the potential behind all passes -/
def lq_F (Fk Ft Fw Fz : Nat → Nat) (lk lt lw zb zn f pe LL : Nat) : Nat := lq_P (lq_n Fk 401 lk f (pe + 1 - f)) (lq_n Ft 401 lt f (pe + 1 - f)) (kg_n (lq_n Fw 641600 lw f (pe + 1 - f)) LL 641600) (lq_n Fz 1604 zb f (pe + 1 - f)) (lq_n Fz 1604 zn f (pe + 1 - f))
section LF
variable {Fk Ft Fw Fz : Nat → Nat} {lk lt lw zb zn f p pe LL l2 lk1 lt1 lw1 zb1 zn1 : Nat}
/-- what the rows are before pass p -/
def lq_at (Fk Ft Fw Fz : Nat → Nat) (lk lt lw zb zn f p lk1 lt1 lw1 zb1 zn1 : Nat) : Prop := lk1 = lq_n Fk 401 lk f (p - f) ∧ lt1 = lq_n Ft 401 lt f (p - f) ∧ lw1 = lq_n Fw 641600 lw f (p - f) ∧ ((zb1 = lq_n Fz 1604 zb f (p - f) ∧ zn1 = lq_n Fz 1604 zn f (p - f)) ∨ (zb1 = lq_n Fz 1604 zn f (p - f) ∧ zn1 = lq_n Fz 1604 zb f (p - f)))
/-- what they may be -/
def lq_b (lk lt lw zb zn : Nat) : Prop := lk ≤ 401 ∧ lt ≤ 401 ∧ lw ≤ 641600 ∧ zb ≤ 1604 ∧ zn ≤ 1604
theorem lq_at0 : lq_at Fk Ft Fw Fz lk lt lw zb zn f f lk lt lw zb zn := by
  unfold lq_at
  rw [lq_n0, lq_n0, lq_n0, lq_n0, lq_n0]
  exact ⟨rfl, rfl, rfl, Or.inl ⟨rfl, rfl⟩⟩
theorem lq_room (hF : ∀ p, Fk p ≤ 401 ∧ Ft p ≤ 401 ∧ Fw p ≤ 641600 ∧ Fz p ≤ 1604) (hb : lq_b lk lt lw zb zn) (hL : LL ≤ 641600) (hf : f ≤ p) (hp : p ≤ pe) (h : lq_at Fk Ft Fw Fz lk lt lw zb zn f p lk1 lt1 lw1 zb1 zn1) (h1 : p = pe → l2 = LL) (h2 : ¬ p = pe → l2 = 0) :
    lq_b lk1 lt1 lw1 zb1 zn1 ∧ lq_P lk lt lw zb zn ≤ lq_P lk1 lt1 lw1 zb1 zn1 ∧ kg_s lk1 (Fk p) 401 7 + (kg_s lt1 (Ft p) 401 2 + kg_s lw1 (Fw p) 641600 1 + kg_s zb1 (Fz p) 1604 4 + kg_s zn1 (Fz p) 1604 4) + kg_s (kg_n lw1 (Fw p) 641600) l2 641600 1 + lq_P lk1 lt1 lw1 zb1 zn1 ≤ lq_F Fk Ft Fw Fz lk lt lw zb zn f pe LL := by
  obtain ⟨b1, b2, b3, b4, b5⟩ := hb
  obtain ⟨e1, e2, e3, e4⟩ := h
  have F1 := fun p => (hF p).1
  have F2 := fun p => (hF p).2.1
  have F3 := fun p => (hF p).2.2.1
  have F4 := fun p => (hF p).2.2.2
  have c1 : lk1 ≤ 401 := by rw [e1]; exact lq_nb b1 F1 _
  have c2 : lt1 ≤ 401 := by rw [e2]; exact lq_nb b2 F2 _
  have c3 : lw1 ≤ 641600 := by rw [e3]; exact lq_nb b3 F3 _
  have m1 : rp_f 401 lk ≤ rp_f 401 lk1 := by rw [e1]; exact lq_nm (k := 0) b1 F1 (Nat.zero_le _)
  have m2 : rp_f 401 lt ≤ rp_f 401 lt1 := by rw [e2]; exact lq_nm (k := 0) b2 F2 (Nat.zero_le _)
  have m3 : rp_f 641600 lw ≤ rp_f 641600 lw1 := by rw [e3]; exact lq_nm (k := 0) b3 F3 (Nat.zero_le _)
  have hL2 : l2 ≤ 641600 := by
    by_cases e : p = pe
    · rw [h1 e]; exact hL
    · rw [h2 e]; exact Nat.zero_le _
  have g1 : kg_n lk1 (Fk p) 401 = lq_n Fk 401 lk f (p + 1 - f) := by rw [lq_ns hf, e1]
  have g2 : kg_n lt1 (Ft p) 401 = lq_n Ft 401 lt f (p + 1 - f) := by rw [lq_ns hf, e2]
  have g3 : kg_n lw1 (Fw p) 641600 = lq_n Fw 641600 lw f (p + 1 - f) := by rw [lq_ns hf, e3]
  have n1 : rp_f 401 (lq_n Fk 401 lk f (p + 1 - f)) ≤ rp_f 401 (lq_n Fk 401 lk f (pe + 1 - f)) := lq_nm b1 F1 (by omega)
  have n2 : rp_f 401 (lq_n Ft 401 lt f (p + 1 - f)) ≤ rp_f 401 (lq_n Ft 401 lt f (pe + 1 - f)) := lq_nm b2 F2 (by omega)
  have n4 : rp_f 1604 (lq_n Fz 1604 zb f (p + 1 - f)) ≤ rp_f 1604 (lq_n Fz 1604 zb f (pe + 1 - f)) := lq_nm b4 F4 (by omega)
  have n5 : rp_f 1604 (lq_n Fz 1604 zn f (p + 1 - f)) ≤ rp_f 1604 (lq_n Fz 1604 zn f (pe + 1 - f)) := lq_nm b5 F4 (by omega)
  have n3 : rp_f 641600 (kg_n (lq_n Fw 641600 lw f (p + 1 - f)) l2 641600) ≤ rp_f 641600 (kg_n (lq_n Fw 641600 lw f (pe + 1 - f)) LL 641600) := by
    by_cases e : p = pe
    · rw [e, h1 e]; exact Nat.le_refl _
    · rw [h2 e, lq_kg0]
      exact Nat.le_trans (lq_nm b3 F3 (by omega)) (lq_rm (lq_nb b3 F3 _) hL)
  have key : ∀ x y, x = lq_n Fz 1604 zb f (p - f) → y = lq_n Fz 1604 zn f (p - f) → (zb1 = x ∧ zn1 = y ∨ zb1 = y ∧ zn1 = x) → lq_b lk1 lt1 lw1 zb1 zn1 ∧ lq_P lk lt lw zb zn ≤ lq_P lk1 lt1 lw1 zb1 zn1 ∧ kg_s lk1 (Fk p) 401 7 + (kg_s lt1 (Ft p) 401 2 + kg_s lw1 (Fw p) 641600 1 + kg_s zb1 (Fz p) 1604 4 + kg_s zn1 (Fz p) 1604 4) + kg_s (kg_n lw1 (Fw p) 641600) l2 641600 1 + lq_P lk1 lt1 lw1 zb1 zn1 ≤ lq_F Fk Ft Fw Fz lk lt lw zb zn f pe LL := by
    intro x y ex ey hz
    have hx : x ≤ 1604 := by rw [ex]; exact lq_nb b4 F4 _
    have hy : y ≤ 1604 := by rw [ey]; exact lq_nb b5 F4 _
    have mx : rp_f 1604 zb ≤ rp_f 1604 x := by rw [ex]; exact lq_nm (k := 0) b4 F4 (Nat.zero_le _)
    have my : rp_f 1604 zn ≤ rp_f 1604 y := by rw [ey]; exact lq_nm (k := 0) b5 F4 (Nat.zero_le _)
    have gx : kg_n x (Fz p) 1604 = lq_n Fz 1604 zb f (p + 1 - f) := by rw [lq_ns hf, ex]
    have gy : kg_n y (Fz p) 1604 = lq_n Fz 1604 zn f (p + 1 - f) := by rw [lq_ns hf, ey]
    have S := (lq_step (lk := lk1) (lt := lt1) (lw := lw1) (zb := x) (zn := y) (nd := Fk p) (b1 := Ft p) (p1 := Fz p) (l1 := Fw p) (l2 := l2) c1 c2 c3 hx hy (F1 p) (F2 p) (F3 p) (F4 p) hL2).1
    rw [g1, g2, g3, gx, gy] at S
    rw [g3]
    unfold lq_F lq_b
    unfold lq_P at S ⊢
    rcases hz with ⟨q1, q2⟩ | ⟨q1, q2⟩
    · rw [q1, q2]
      refine ⟨⟨c1, c2, c3, hx, hy⟩, by omega, by omega⟩
    · rw [q1, q2]
      refine ⟨⟨c1, c2, c3, hy, hx⟩, by omega, by omega⟩
  exact key _ _ rfl rfl e4
/-- behind a pass without a way -/
theorem lq_atS {lk2 lt2 lw2 zb2 zn2 : Nat} (hf : f ≤ p) (h : lq_at Fk Ft Fw Fz lk lt lw zb zn f p lk1 lt1 lw1 zb1 zn1) (h1 : lk2 = kg_n lk1 (Fk p) 401) (h2 : lt2 = kg_n lt1 (Ft p) 401) (h3 : lw2 = kg_n lw1 (Fw p) 641600) (h4 : (zb2 = kg_n zb1 (Fz p) 1604 ∧ zn2 = kg_n zn1 (Fz p) 1604) ∨ (zb2 = kg_n zn1 (Fz p) 1604 ∧ zn2 = kg_n zb1 (Fz p) 1604)) : lq_at Fk Ft Fw Fz lk lt lw zb zn f (p + 1) lk2 lt2 lw2 zb2 zn2 := by
  obtain ⟨e1, e2, e3, e4⟩ := h
  unfold lq_at
  rw [lq_ns hf, lq_ns hf, lq_ns hf, lq_ns hf, lq_ns hf, ← e1, ← e2, ← e3]
  refine ⟨h1, h2, h3, ?_⟩
  rcases h4 with ⟨q1, q2⟩ | ⟨q1, q2⟩ <;> rcases e4 with ⟨r1, r2⟩ | ⟨r1, r2⟩ <;> rw [q1, q2, r1, r2] <;> first | exact Or.inl ⟨rfl, rfl⟩ | exact Or.inr ⟨rfl, rfl⟩
/-- behind the pass with the way -/
theorem lq_atF {lk2 lt2 lw2 zb2 zn2 : Nat} (hF : ∀ p, Fk p ≤ 401 ∧ Ft p ≤ 401 ∧ Fw p ≤ 641600 ∧ Fz p ≤ 1604) (hb : lq_b lk lt lw zb zn) (hL : LL ≤ 641600) (hf : f ≤ pe) (h : lq_at Fk Ft Fw Fz lk lt lw zb zn f pe lk1 lt1 lw1 zb1 zn1) (h1 : lk2 = kg_n lk1 (Fk pe) 401) (h2 : lt2 = kg_n lt1 (Ft pe) 401) (h3 : lw2 = kg_n (kg_n lw1 (Fw pe) 641600) LL 641600) (h4 : (zb2 = kg_n zb1 (Fz pe) 1604 ∧ zn2 = kg_n zn1 (Fz pe) 1604) ∨ (zb2 = kg_n zn1 (Fz pe) 1604 ∧ zn2 = kg_n zb1 (Fz pe) 1604)) : lq_P lk2 lt2 lw2 zb2 zn2 = lq_F Fk Ft Fw Fz lk lt lw zb zn f pe LL ∧ lq_b lk2 lt2 lw2 zb2 zn2 := by
  obtain ⟨b1, b2, b3, b4, b5⟩ := hb
  have F1 := fun p => (hF p).1
  have F2 := fun p => (hF p).2.1
  have F3 := fun p => (hF p).2.2.1
  have F4 := fun p => (hF p).2.2.2
  obtain ⟨a1, a2, a3, a4⟩ := lq_atS (lw2 := kg_n lw1 (Fw pe) 641600) hf h h1 h2 rfl h4
  have a5 : lw2 = kg_n (lq_n Fw 641600 lw f (pe + 1 - f)) LL 641600 := by rw [h3, a3]
  have hw : lw2 ≤ 641600 := by rw [a5]; exact (rp_s (lq_nb b3 F3 _) hL).2
  unfold lq_F
  rcases a4 with ⟨q1, q2⟩ | ⟨q1, q2⟩
  · rw [a1, a2, a5, q1, q2]
    exact ⟨rfl, lq_nb b1 F1 _, lq_nb b2 F2 _, by rw [← a5]; exact hw, lq_nb b4 F4 _, lq_nb b5 F4 _⟩
  · rw [a1, a2, a5, q1, q2]
    exact ⟨lq_sw, lq_nb b1 F1 _, lq_nb b2 F2 _, by rw [← a5]; exact hw, lq_nb b5 F4 _, lq_nb b4 F4 _⟩
end LF
/-- what findWay is told of the number, in every pass -/
theorem lq_N0 {QX : Nat → Nat → Nat → Option (Nat × qx_V)} {B p pe n0 GO NL zL : Nat} {q : Int} (h : p = pe → lq_W QX B q n0 GO NL zL) (hn : ¬ p = pe → ∀ n z, 1 ≤ n → z < 4 → QX n B z = none) : ∃ n1 G1 : Nat, (∀ m, kw_min QX B m → m = n1 ∧ (G1 : Int) = max 1 (min ((B : Nat) : Int) ((n1 : Int) + q))) ∧ (p = pe → n1 = n0 ∧ G1 = GO) ∧ (¬ p = pe → n1 = G1) := by
  by_cases e : p = pe
  · exact ⟨n0, GO, fun m hm => ⟨lq_Wm (h e) hm, (h e).2.1⟩, fun _ => ⟨rfl, rfl⟩, fun w => absurd e w⟩
  · refine ⟨0, 0, fun m hm => ?_, fun w => absurd w e, fun _ => rfl⟩
    obtain ⟨a, z, p9, w9, hz, hx, _⟩ := hm
    rw [hn e m z a hz] at hx
    cases hx

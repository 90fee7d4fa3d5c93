/-! what writeTo is told of the way found, in the reference's words -/
/-- the way, line by line, with what the rows and the sums are to be -/
def lq_T (d : kj_D) (QX : Nat → Nat → Nat → Option (Nat × qx_V)) (N B z : Nat) (SO : Int64) (SV : Int32) (SD : Int64) (G0 G1 G2 G3 G4 : Nat → Int32) : Prop :=
  ∃ (sO : Nat → Int64) (sV : Nat → Int32) (sD : Nat → Int64), (∀ q, 1 ≤ q → q ≤ N → qt_b QX N B z (q - 1) < qt_b QX N B z q ∧ qt_b QX N B z q ≤ B ∧ kj_C d q (qt_b QX N B z (q - 1)) (qt_b QX N B z q) = qt_z QX N B z q ∧ qt_z QX N B z (q - 1) < 4) ∧ qt_b QX N B z 0 = 0 ∧ qt_z QX N B z 0 = 2 ∧ (sO 0 = 0 ∧ sV 0 = nI 0 ∧ sD 0 = 0) ∧
    (∀ q, 1 ≤ q → q ≤ N → sO q = sO (q - 1) + kj_O d q (qt_b QX N B z (q - 1)) (qt_b QX N B z q)) ∧ (∀ q, 1 ≤ q → q ≤ N → sV q = sV (q - 1) + nI (pm_ab (kj_B d q (qt_b QX N B z (q - 1)) (qt_b QX N B z q)) (d.ru 1))) ∧
    (∀ q, 1 ≤ q → q ≤ N → sD q = sD (q - 1) + (kj_m d q (qt_b QX N B z (q - 1)) (qt_b QX N B z q) + (if pm_adj (kj_C d q (qt_b QX N B z (q - 1)) (qt_b QX N B z q)) (qt_z QX N B z (q - 1)) then (d.ru 5).toInt64 else 0))) ∧ (sO N = SO ∧ sV N = SV ∧ sD N = SD) ∧
    ∀ q, q < N → nI (min (d.tg (qt_b QX N B z q)) (d.ti (qt_b QX N B z (q + 1)))) = G0 q ∧ nI (d.ti (qt_b QX N B z (q + 1))) = G1 q ∧ kj_B d (q + 1) (qt_b QX N B z q) (qt_b QX N B z (q + 1)) = G2 q ∧ nI (kj_C d (q + 1) (qt_b QX N B z q) (qt_b QX N B z (q + 1))) = G3 q ∧ (if kj_O d (q + 1) (qt_b QX N B z q) (qt_b QX N B z (q + 1)) < 2147483647 then kj_O d (q + 1) (qt_b QX N B z q) (qt_b QX N B z (q + 1)) else 2147483647).toInt32 = G4 q
section LT
variable {d : kj_D} {kd wd sr od sk ru me si : Nat → Int32} {cn mn ps : Nat} {br : Nat → Nat} {B : Nat}
theorem qv_z (N b z k : Nat) : qt_z (qm_X kd wd sr od sk ru me si cn mn ps br) N b z k = qt_z (qr_X kd wd sr od sk ru me si cn mn ps br) N b z k := congrArg Prod.snd (qv_d N b z (N - k))
/-- the weight of the first k lines of the way -/
def lq_v (kd wd sr od sk ru me si : Nat → Int32) (cn mn ps : Nat) (br : Nat → Nat) (N B z k : Nat) : qx_V := ((qr_X kd wd sr od sk ru me si cn mn ps br k (qt_b (qr_X kd wd sr od sk ru me si cn mn ps br) N B z k) (qt_z (qr_X kd wd sr od sk ru me si cn mn ps br) N B z k)).map Prod.snd).getD (0, 0, 0)
theorem lq_Tof {N z : Nat} {v : qx_V} (hB : B ≤ 400) (h : ql_H d kd wd sr od sk ru me si cn mn ps br B) (hw : ∃ p, (qr_X kd wd sr od sk ru me si cn mn ps br) N B z = some (p, v)) {G0 G1 G2 G3 G4 : Nat → Int32}
    (hG : ∀ q, q < N → G0 q = nI (qn_bg kd od br (qt_b (qr_X kd wd sr od sk ru me si cn mn ps br) N B z q) (qt_b (qr_X kd wd sr od sk ru me si cn mn ps br) N B z (q + 1))) ∧ G1 q = nI (br (qt_b (qr_X kd wd sr od sk ru me si cn mn ps br) N B z (q + 1) - 1)) ∧ G2 q = qr_B kd wd sr od sk me si cn mn br (q + 1) (qt_b (qr_X kd wd sr od sk ru me si cn mn ps br) N B z q) (qt_b (qr_X kd wd sr od sk ru me si cn mn ps br) N B z (q + 1)) ∧ G3 q = nI (qr_C kd wd sr od sk me si cn mn br (q + 1) (qt_b (qr_X kd wd sr od sk ru me si cn mn ps br) N B z q) (qt_b (qr_X kd wd sr od sk ru me si cn mn ps br) N B z (q + 1))) ∧ G4 q = (if qr_O kd wd sr od sk me si cn mn br (q + 1) (qt_b (qr_X kd wd sr od sk ru me si cn mn ps br) N B z q) (qt_b (qr_X kd wd sr od sk ru me si cn mn ps br) N B z (q + 1)) < 2147483647 then qr_O kd wd sr od sk me si cn mn br (q + 1) (qt_b (qr_X kd wd sr od sk ru me si cn mn ps br) N B z q) (qt_b (qr_X kd wd sr od sk ru me si cn mn ps br) N B z (q + 1)) else 2147483647).toInt32) :
    lq_T d (qm_X kd wd sr od sk ru me si cn mn ps br) N B z v.1 v.2.1 v.2.2 G0 G1 G2 G3 G4 := by
  obtain ⟨p, hp⟩ := hw
  have hw : ∃ y, (qr_X kd wd sr od sk ru me si cn mn ps br) N B z = some y := ⟨_, hp⟩
  obtain ⟨z0, z1, z2⟩ := qt_0 hB hw
  have hlv : ∀ k, ∀ q v, (qr_X kd wd sr od sk ru me si cn mn ps br) k (qt_b (qr_X kd wd sr od sk ru me si cn mn ps br) N B z k) (qt_z (qr_X kd wd sr od sk ru me si cn mn ps br) N B z k) = some (q, v) → lq_v kd wd sr od sk ru me si cn mn ps br N B z k = v := fun k q v e => by
    unfold lq_v
    rw [e]
    rfl
  have h0 : lq_v kd wd sr od sk ru me si cn mn ps br N B z 0 = (0, 0, 0) := hlv 0 0 _ (by rw [z0, z1]; exact z2)
  have hNv : lq_v kd wd sr od sk ru me si cn mn ps br N B z N = v := hlv N p v (by rw [qt_b_N, qt_z_N]; exact hp)
  refine ⟨fun k => (lq_v kd wd sr od sk ru me si cn mn ps br N B z k).1, fun k => (lq_v kd wd sr od sk ru me si cn mn ps br N B z k).2.1, fun k => (lq_v kd wd sr od sk ru me si cn mn ps br N B z k).2.2, ?_, ?_, ?_, ⟨congrArg (fun u : qx_V => u.1) h0, congrArg (fun u : qx_V => u.2.1) h0, congrArg (fun u : qx_V => u.2.2) h0⟩, ?_, ?_, ?_, ⟨congrArg (fun u : qx_V => u.1) hNv, congrArg (fun u : qx_V => u.2.1) hNv, congrArg (fun u : qx_V => u.2.2) hNv⟩, ?_⟩
  · intro q h1 h2
    obtain ⟨v1, w1, _, _, a5, a6, a7, _⟩ := qv_line hB h hw h1 h2
    obtain ⟨_, _, _, _, _, _, _, b4, _⟩ := qt_ok hB hw h1 h2
    rw [qv_b, qv_b, qv_z, qv_z]
    exact ⟨a5, a6, a7, b4⟩
  · rw [qv_b]; exact z0
  · rw [qv_z]; exact z1
  · intro q h1 h2
    obtain ⟨v1, w1, ⟨q1, e1⟩, ⟨q2, e2⟩, a5, a6, a7, a8, a9, a10⟩ := qv_line hB h hw h1 h2
    rw [qv_b, qv_b]
    show (lq_v kd wd sr od sk ru me si cn mn ps br N B z q).1 = (lq_v kd wd sr od sk ru me si cn mn ps br N B z (q - 1)).1 + _
    rw [hlv q _ _ e1, hlv (q - 1) _ _ e2]
    exact a8
  · intro q h1 h2
    obtain ⟨v1, w1, ⟨q1, e1⟩, ⟨q2, e2⟩, a5, a6, a7, a8, a9, a10⟩ := qv_line hB h hw h1 h2
    rw [qv_b, qv_b]
    show (lq_v kd wd sr od sk ru me si cn mn ps br N B z q).2.1 = (lq_v kd wd sr od sk ru me si cn mn ps br N B z (q - 1)).2.1 + _
    rw [hlv q _ _ e1, hlv (q - 1) _ _ e2]
    exact a9
  · intro q h1 h2
    obtain ⟨v1, w1, ⟨q1, e1⟩, ⟨q2, e2⟩, a5, a6, a7, a8, a9, a10⟩ := qv_line hB h hw h1 h2
    rw [qv_b, qv_b, qv_z]
    show (lq_v kd wd sr od sk ru me si cn mn ps br N B z q).2.2 = (lq_v kd wd sr od sk ru me si cn mn ps br N B z (q - 1)).2.2 + _
    rw [hlv q _ _ e1, hlv (q - 1) _ _ e2]
    exact a10
  · intro q hq
    obtain ⟨v1, w1, _, _, a5, a6, _⟩ := qv_line (k := q + 1) hB h hw (by omega) (by omega)
    rw [Nat.add_sub_cancel] at a5
    obtain ⟨g0, g1, g2, g3, g4⟩ := hG q hq
    rw [qv_b, qv_b, h.hti _ (by omega) a6, h.hbg _ _ a5 a6, ql_B h (by omega) a5 a6, ql_C h (by omega) a5 a6, ql_O h (by omega) a5 a6, g0, g1, g2, g3, g4]
    exact ⟨rfl, rfl, rfl, rfl, rfl⟩
theorem lq_Q (h : ql_H d kd wd sr od sk ru me si cn mn ps br B) (hN : qn_H kd wd od ru cn B br) (hB1 : 1 ≤ B) (hmc : 1 ≤ d.mc) : kw_Q d B (qm_X kd wd sr od sk ru me si cn mn ps br) :=
  ⟨qz_X h hN.hB, fun Y op _ hop hY => ⟨_, qm_open h hN hmc hB1 rfl hop (fun _ _ _ _ => rfl) hY⟩⟩
end LT
section LT2
variable {kd wd sr od sk ru me si : Nat → Int32} {cn mn : Nat}
/-- there is a first pass with a way -/
theorem lq_pass (hB : ∀ p, p ≤ 3 → rl_B kd wd od cn p ≤ 400) {f : Nat} (hf : f ≤ 3) : ∃ pe, f ≤ pe ∧ pe ≤ 3 ∧ (∀ p, f ≤ p → p < pe → rl_no kd wd sr od sk ru me si cn mn p) ∧ ¬ rl_no kd wd sr od sk ru me si cn mn pe := by
  have h3 : ¬ rl_no kd wd sr od sk ru me si cn mn 3 := fun q => by
    have a := rl_3 (kd := kd) (wd := wd) (sr := sr) (od := od) (sk := sk) (ru := ru) (me := me) (si := si) (cn := cn) (mn := mn) (s0 := (0, 0, 0, 0, 0)) rfl rfl (hB 3 (Nat.le_refl _))
    have b := (qz_first (kd := kd) (wd := wd) (sr := sr) (od := od) (sk := sk) (ru := ru) (me := me) (si := si) (cn := cn) (mn := mn) (ps := 3) (s0 := (0, 0, 0, 0, 0)) rfl rl_B1 (hB 3 (Nat.le_refl _))).1 (rk_no.mp q)
    omega
  have key : ∀ k, ∀ f, f + k = 3 → ∃ pe, f ≤ pe ∧ pe ≤ 3 ∧ (∀ p, f ≤ p → p < pe → rl_no kd wd sr od sk ru me si cn mn p) ∧ ¬ rl_no kd wd sr od sk ru me si cn mn pe := by
    intro k
    induction k with
    | zero => exact fun f hf => ⟨3, by omega, Nat.le_refl _, fun p h1 h2 => absurd h1 (by omega), h3⟩
    | succ k ih =>
      intro f hf
      rcases Classical.em (rl_no kd wd sr od sk ru me si cn mn f) with q | q
      · obtain ⟨pe, a1, a2, a3, a4⟩ := ih (f + 1) (by omega)
        exact ⟨pe, by omega, a2, fun p h1 h2 => (show p = f ∨ f + 1 ≤ p by omega).elim (fun e => by rw [e]; exact q) (fun e => a3 p e h2), a4⟩
      · exact ⟨f, Nat.le_refl _, by omega, fun p h1 h2 => absurd h1 (by omega), q⟩
  exact key (3 - f) f (by omega)
/-- what is found in it -/
theorem lq_find {pe : Nat} {q : Int} (hB : rl_B kd wd od cn pe ≤ 400) (h : ¬ rl_no kd wd sr od sk ru me si cn mn pe) : ∃ n0 GO NL zL, lq_W (qm_X kd wd sr od sk ru me si cn mn pe (rl_r kd wd od cn pe)) (rl_B kd wd od cn pe) q n0 GO NL zL := by
  have hle : ∀ n z y, z < 4 → qm_X kd wd sr od sk ru me si cn mn pe (rl_r kd wd od cn pe) n (rl_B kd wd od cn pe) z = some y → n ≤ rl_B kd wd od cn pe := fun n z y hz e => by
    obtain ⟨p, w⟩ := y
    obtain ⟨u, hu, _⟩ := qz_some.mp e
    exact qr_le n _ z hB hz _ hu
  rcases Classical.em (∃ n z, 1 ≤ n ∧ z < 4 ∧ ¬ qm_X kd wd sr od sk ru me si cn mn pe (rl_r kd wd od cn pe) n (rl_B kd wd od cn pe) z = none) with ⟨n, z, a1, a2, a3⟩ | q
  · exact lq_Wex hle a1 a2 a3
  · exact absurd (rk_no.mpr (fun n z h1 h2 => Classical.byContradiction fun e => q ⟨n, z, h1, h2, e⟩)) h
end LT2

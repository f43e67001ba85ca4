-- the reference: instantiate, its second half
section MN7
variable {own own' : Nat → Nat} {mm m i ip k f t n : Nat} {A A' : Nat → Nat} {h h' h2 : xb_H} {F F' F2 : Nat → Nat → Int32} {v v' v2 v0 cb : Nat → Int32} {D : zM} {DM : Nat → zM} {len rl K rc rs bc bs E : Nat} {Qr : Int32 → xb_H → Nat → Nat → Prop}
theorem rOK.c {φ φ' : Nat → Nat → Int32} {ν ν' : Nat → Int32} {r : Int} (h31 : φ' 31 = φ 31) (h44 : φ' 44 = φ 44) (h45 : φ' 45 = φ 45) (h59 : ∀ g, g < vN ν 58 → φ' 59 g = φ 59 g) (hν : ∀ k, k ∈ [43, 46, 52, 58] → ν' k = ν k) (h : rOK φ ν DM D k r) : rOK φ' ν' DM D k r := by
  have ev : ∀ k, k ∈ [43, 46, 52, 58] → vN ν' k = vN ν k := fun k hk => by
    unfold vN
    rw [hν k hk]
  have em : ∀ f, fMo φ' DM f = fMo φ DM f := fun f => by
    unfold fMo aV
    rw [h31, h44]
  have et : ∀ f, fTy φ' DM f = fTy φ DM f := fun f => by
    unfold fTy aV
    rw [em, h45]
  obtain ⟨a0, a1, a2, a3⟩ := h
  refine ⟨fun e => ?_, fun e => by rw [ev 46 (by decide)]; exact a1 e, fun e => by rw [ev 52 (by decide)]; exact a2 e, fun e => ?_⟩
  · obtain ⟨f, e1, e2, e3, e4⟩ := a0 e
    refine ⟨f, e1, ?_, ?_, ?_⟩
    · unfold fnO at *
      rw [ev 43 (by decide)]
      exact e2
    · unfold fPl at *
      rw [em, et]
      exact e3
    · unfold fRt at *
      rw [em, et]
      exact e4
  · obtain ⟨g, e1, e2, e3⟩ := a3 e
    exact ⟨g, e1, by rw [ev 58 (by decide)]; exact e2, by rw [h59 g e2]; exact e3⟩
/-- all but the variables -/
def nwJ (A : Nat → Nat) (F : Nat → Nat → Int32) (v : Nat → Int32) (DM : Nat → zM) (rl m : Nat) : Prop :=
  (vN v 30 < 24 ∧ m < vN v 5 ∧ vN v 43 + qt (DM m) 3 ≤ 8192 ∧ vN v 58 + qt (DM m) 6 ≤ 4096 ∧ vN v 34 + qt (DM m) 2 ≤ rl ∧ qt (DM m) 2 ≤ 10240) ∧
  ((F (A 31) (vN v 30)).toInt = m ∧ (F (A 32) (vN v 30)).toInt = vN v 34 ∧ (F (A 35) (vN v 30)).toInt = vN v 43 ∧ (F (A 36) (vN v 30)).toInt = vN v 58 ∧ (F (A 37) (vN v 30)).toInt = vN v 46 ∧ (F (A 38) (vN v 30)).toInt = vN v 52) ∧
  (0 < qt (DM m) 4 → (F (A 48) (vN v 46)).toInt = vN v 47 ∧ ∃ tz : Nat, (F (A 49) (vN v 46)).toInt = tz ∧ vN v 47 + tz ≤ 16384) ∧
  (0 < qt (DM m) 5 → ∃ pc : Nat, (F (A 54) (vN v 52)).toInt = pc ∧ vN v 53 + pc ≤ 16) ∧
  ∀ k, k < qt (DM m) 2 → rOK (fun k => F (A k)) v DM (DM m) k (F (A 33) (vN v 34 + k)).toInt
theorem cnV.cg2 {p b : Nat} (hc : ckE D p E) (h33 : F' (A 33) = F (A 33)) (hg : ∀ j, j < qt D 2 → (ub (qc D) (kpo D j)).toInt = 3 → ∃ g : Nat, (F (A 33) (ip + j)).toInt = g ∧ g < b) (hl : ∀ g, g < b → xb_l h' (A 61) g = xb_l h (A 61) g) : cnV A h' F' D ip p = cnV A h F D ip p := by
  unfold cnV
  rw [h33]
  by_cases h9 : ub (qc D) p = 35
  · rw [if_pos h9, if_pos h9]
    obtain ⟨q, -, -, hq⟩ := hc
    rcases hq with ⟨-, x, c2, c3⟩ | ⟨op, o1, o2, o3, -⟩
    · have e := (rC_E c2).2
      have rb := rC_b c2
      obtain ⟨g1, g2, -⟩ := ikx_f (D := D) (κ := 3) (n := qt D 2) (i := cV (qc D) (p + 1)) (show _ < iM D 3 by omega)
      obtain ⟨g, y1, y2⟩ := hg _ g1 g2
      rw [y1, Int.toNat_natCast]
      exact hl g y2
    · rw [h9] at o1
      have : (35 : Int32).toInt = 35 := rfl
      omega
  · rw [if_neg h9, if_neg h9]
theorem rfT.cg {s : Nat} {H : Int} (hc : ∀ k E p3 L, rowP D s k E p3 L → cnV A h' F' D ip (cE (qc D) (qp D s k)) = cnV A h F D ip (cE (qc D) (qp D s k))) (hr : rfT A h' F' D ip s H k) : rfT A h F D ip s H k := by
  obtain ⟨a, b, E, p3, L, c, d⟩ := hr
  exact ⟨a, fun k' hk' E p3 L hr => by rw [← hc k' E p3 L hr]; exact b k' hk' E p3 L hr, E, p3, L, c, by rw [← hc k E p3 L c]; exact d⟩
/-- the variables that were made: nothing below changes -/
def ivW (A : Nat → Nat) (h : xb_H) (F : Nat → Nat → Int32) (v : Nat → Int32) (D : zM) (ip n : Nat) (hh : xb_H) (w z : Nat → Int32) : Prop :=
  (∀ a, a ≠ A 61 → xb_l hh a = xb_l h a) ∧
  (∀ j, j < vN v 58 → w j = F (A 59) j ∧ z j = F (A 60) j ∧ xb_l hh (A 61) j = xb_l h (A 61) j) ∧
  ∀ j, j < n → (w (vN v 58 + j)).toInt = vty D (iM D 3 + j) ∧ z (vN v 58 + j) = (if ub (qc D) (qp D 6 j + 1) = 1 then 1 else 0) ∧ xb_l hh (A 61) (vN v 58 + j) = cnV A h F D ip (qp D 6 j + 2)
/-- how far rows may reach -/
def rfH (A : Nat → Nat) (F : Nat → Nat → Int32) (DM : Nat → zM) (i s : Nat) : Int := if s = 9 then (F (A 49) (oV A F DM i 1).toInt.toNat).toInt else 65536 * (F (A 54) (oV A F DM i 2).toInt.toNat).toInt
/-- all rows fit -/
def rfA (A : Nat → Nat) (h : xb_H) (F : Nat → Nat → Int32) (D : zM) (ip s : Nat) (H : Int) : Prop := ∀ k, k < qt D s → ∀ E p3 L, rowP D s k E p3 L → (cnV A h F D ip (cE (qc D) (qp D s k)) &&& 4294967295).toInt + L.toInt ≤ H
/-- which row is refused, and with what -/
def rfW (A : Nat → Nat) (h : xb_H) (F : Nat → Nat → Int32) (DM : Nat → zM) (D : zM) (i ip : Nat) (c : Int32) (k : Nat) : Prop :=
  (c = 45 ∧ rfT A h F D ip 9 (rfH A F DM i 9) k) ∨ (c = 46 ∧ rfA A h F D ip 9 (rfH A F DM i 9) ∧ rfT A h F D ip 11 (rfH A F DM i 11) k)
/-- the start, if any -/
def srT (A : Nat → Nat) (F : Nat → Nat → Int32) (DM : Nat → zM) (D : zM) (i : Nat) (v v' : Nat → Int32) : Prop :=
  (qt D 8 = 0 ∧ v' = v) ∨ (0 < qt D 8 ∧ ∃ u, vg v u ∧ (v' 64).toInt = mnV A F DM i 0 (cV (qc D) (qp D 8 0)) ∧ v' 62 = 1 ∧ v' 63 = 0 ∧ v' 93 = 0 ∧ ∀ k, k ∉ [62, 63, 64, 93] → v' k = u k)
/-- an instance made: its variables, settled, its rows written, its start -/
def mdX (A : Nat → Nat) (h : xb_H) (F : Nat → Nat → Int32) (v : Nat → Int32) (DM : Nat → zM) (m : Nat) (hh : xb_H) (F5 : Nat → Nat → Int32) (v5 : Nat → Int32) : Prop :=
  ∃ (w z v2 v3 v4 : Nat → Int32) (F3 F4 : Nat → Nat → Int32), ivW A h F v (DM m) (vN v 34) (qt (DM m) 6) hh w z ∧ vg v v2 ∧
    stX A (va_up (va_up F (A 59) w) (A 60) z) v2 (DM m) F3 v3 ∧ (∀ k, (∃ e ∈ aL, e.1 = k) → k ∉ [44, 45, 51, 56] → F3 (A k) = va_up (va_up F (A 59) w) (A 60) z (A k)) ∧ (∀ k, k ∉ [30, 34, 43, 46, 47, 52, 53, 58] → v3 k = v2 k) ∧ vN v3 30 = vN v 30 + 1 ∧
    rfA A h F (DM m) (vN v 34) 9 (rfH A F DM (vN v 30) 9) ∧ rfA A h F (DM m) (vN v 34) 11 (rfH A F DM (vN v 30) 11) ∧
    wrW A hh F3 DM (DM m) (vN v 30) (vN v 34) (oV A F DM (vN v 30) 1).toInt.toNat (oV A F DM (vN v 30) 2).toInt.toNat F4 ∧ (∀ k, (∃ e ∈ aL, e.1 = k) → k ≠ 51 → k ≠ 57 → F4 (A k) = F3 (A k)) ∧ vg v3 v4 ∧
    F5 = va_up F4 (A 89) (va_up (va_up (F4 (A 89)) 0 0) 1 0) ∧ srT A F5 DM (DM m) (vN v 30) v4 v5
theorem m_inst365E {x1 x12 : Int32} (hA : rA own mm A h F v DM len rl K) (hJ : nwJ A F v DM rl m) (h62 : v 62 = 0) (h1 : x1.toInt = m) (h12 : x12.toInt = vN v 30) (hQf : ∀ (hh : xb_H) (w z v' : Nat → Int32) (c kx : Int32) (k : Nat), f0 own h F hh (va_up (va_up (va_up F (A 59) w) (A 60) z) (A 89) (va_up (va_up (F (A 89)) 0 c) 1 kx)) → ivW A h F v (DM m) (vN v 34) (qt (DM m) 6) hh w z → vg v v' → v' 17 = 0 → kx.toInt = k → rfW A h F DM (DM m) (vN v 30) (vN v 34) c k → rA own mm A hh (va_up (va_up (va_up F (A 59) w) (A 60) z) (A 89) (va_up (va_up (F (A 89)) 0 c) 1 kx)) v' DM len rl K → Qr (-1) (mH hh (va_up (va_up (va_up F (A 59) w) (A 60) z) (A 89) (va_up (va_up (F (A 89)) 0 c) 1 kx)) mm v') bc bs)
    (hQs : ∀ (hh : xb_H) (F5 : Nat → Nat → Int32) (v5 : Nat → Int32), f0 own h F hh F5 → mdX A h F v DM m hh F5 v5 → rA own mm A hh F5 v5 DM len rl K → Qr x12 (mH hh F5 mm v5) bc bs) : w_M_instantiate_L362 Qr mm x1 x12 (mH h F mm v) bc bs := by
  have hB := hA.B
  obtain ⟨⟨m1, m2, m3, m4, m5, m6⟩, ⟨d1, d2, d3, d4, d5, d6⟩, hT, hP, hI⟩ := id hJ
  have hX := hA.X m2
  have hV := hA.V m2
  obtain ⟨q1, q2, q3, q4, q5⟩ := hA.2.2.1
  obtain ⟨n58, n58'⟩ := hA.n (k := 58) (b := 4096) (by decide)
  have n46 := (hA.n (k := 46) (b := 24) (by decide)).2
  have n52 := (hA.n (k := 52) (b := 24) (by decide)).2
  have n53 := (hA.n (k := 53) (b := 16) (by decide)).2
  obtain ⟨w1', w2', w3', w4', w5', w6, w7, w8'⟩ := hA.W1
  obtain ⟨wf, wt, we, wm, -⟩ := hA.w4
  obtain ⟨a59, a59', a59n, a59m⟩ := hB.kx (k := 59) (kd := 102) (n := 4096) (by decide) (by decide)
  obtain ⟨a60, a60', a60n, a60m⟩ := hB.kx (k := 60) (kd := 101) (n := 4096) (by decide) (by decide)
  obtain ⟨a61, a61', a61n, a61m⟩ := hB.kx (k := 61) (kd := 103) (n := 4096) (by decide) (by decide)
  have b6 := (hX.2.2.2.2.2.1 6 (by decide)).1
  -- the state: types w9, changes w10
  obtain ⟨G, hG⟩ : ∃ G : (Nat → Int32) → (Nat → Int32) → Nat → Nat → Int32, G = fun w z => va_up (va_up F (A 59) w) (A 60) z := ⟨_, rfl⟩
  have Go : ∀ w z k, (∃ e ∈ aL, e.1 = k) → k ≠ 59 → k ≠ 60 → G w z (A k) = F (A k) := fun w z k hk h9 h8 => by
    rw [hG]
    dsimp only
    rw [xh_up, if_neg (hB.ne hk (by decide) h8), xh_up, if_neg (hB.ne hk (by decide) h9)]
  have G59 : ∀ w z, G w z (A 59) = w := fun w z => by
    rw [hG]
    dsimp only
    rw [xh_up, if_neg (hB.ne (by decide) (by decide) (by decide)), xh_up, if_pos rfl]
  have G60 : ∀ w z, G w z (A 60) = z := fun w z => by
    rw [hG]
    dsimp only
    rw [xh_up, if_pos rfl]
  have Gf : ∀ w z, f0 own h F h (G w z) := fun w z => by
    rw [hG]
    exact (f0.aw (by rw [hB.o (by decide)]; omega)).tr (f0.aw (by rw [hB.o (by decide)]; omega))
  have G300 : ∀ w z a, own a = 300 → G w z a = F a := fun w z a ha => by
    rw [hG]
    dsimp only
    rw [xh_up, if_neg (fun e => by rw [e, hB.o (by decide)] at ha; omega), xh_up, if_neg (fun e => by rw [e, hB.o (by decide)] at ha; omega)]
  have vgR : ∀ (u : Nat → Int32), vg v u → u 17 = 0 → ∀ k, k ∈ vRI → u k = v k := fun u gu zu k hk => by
    by_cases h9 : k = 17
    · rw [h9, zu, hA.z]
    · have : ∀ k, k ∈ vRI → k ≠ 17 → k ≠ 14 ∧ k ≠ 15 ∧ k ≠ 16 ∧ k ≠ 18 := by decide
      obtain ⟨b1, b2, b3, b4⟩ := this k hk h9
      exact gu k b1 b2 b3 h9 b4
  have ev : ∀ (u : Nat → Int32), vg v u → ∀ k, k ∉ [14, 15, 16, 17, 18] → vN u k = vN v k := fun u gu k hk => by
    have qn : ∀ j, j ∈ [14, 15, 16, 17, 18] → k ≠ j := fun j hj e => hk (e ▸ hj)
    unfold vN
    rw [gu k (qn 14 (by decide)) (qn 15 (by decide)) (qn 16 (by decide)) (qn 17 (by decide)) (qn 18 (by decide))]
  have GA : ∀ (w z u : Nat → Int32) (hh : xb_H), f0 own h F hh F → (∀ j, j < vN v 58 → w j = F (A 59) j) → vg v u → u 17 = 0 → rA own mm A hh (G w z) u DM len rl K := fun w z u hh hfh hw gu zu => by
    have hfG : f0 own h F hh (G w z) := ⟨hfh.1, hfh.2.1, hfh.2.2.1, fun a ha => ⟨(hfh.2.2.2 a ha).1, ((Gf w z).2.2.2 a ha).2⟩⟩
    refine hA.ex hfG (Go w z 90 (by decide) (by decide) (by decide)) (G300 w z) (vgR u gu zu) (fun k hk h9 => ?_) (fun k hk j _ => ?_) (fun j _ => by rw [Go w z 33 (by decide) (by decide) (by decide)]) (fun f _ => by rw [Go w z 44 (by decide) (by decide) (by decide), Go w z 45 (by decide) (by decide) (by decide)]; exact ⟨rfl, rfl⟩) (fun t _ => by rw [Go w z 48 (by decide) (by decide) (by decide), Go w z 49 (by decide) (by decide) (by decide)]; exact ⟨rfl, rfl⟩) (fun m _ => by rw [Go w z 54 (by decide) (by decide) (by decide)]) (fun g hg9 => by rw [G59]; exact hw g hg9)
    · have q : ∀ k, k ∈ aRI → k ∉ nwA → (∃ e ∈ aL, e.1 = k) ∧ k ≠ 59 ∧ k ≠ 60 := by decide
      exact Go w z k (q k hk h9).1 (q k hk h9).2.1 (q k hk h9).2.2
    · have q : ∀ k, k ∈ [31, 32, 35, 36, 37, 38] → (∃ e ∈ aL, e.1 = k) ∧ k ≠ 59 ∧ k ≠ 60 := by decide
      rw [Go w z k (q k hk).1 (q k hk).2.1 (q k hk).2.2]
  have GX : ∀ (w z : Nat → Int32) (hh : xb_H), f0 own h F hh F → mX own mm A hh (G w z) m (DM m) := fun w z hh hfh => (hX.upk (fun k hk => Go w z k ((by decide : ∀ k, k ∈ [3, 6, 7, 8, 9, 10, 11] → ∃ e ∈ aL, e.1 = k) k hk) ((by decide : ∀ k, k ∈ [3, 6, 7, 8, 9, 10, 11] → k ≠ 59) k hk) ((by decide : ∀ k, k ∈ [3, 6, 7, 8, 9, 10, 11] → k ≠ 60) k hk))).f (F' := G w z) ⟨hfh.1, hfh.2.1, hfh.2.2.1, fun a ha => ⟨(hfh.2.2.2 a ha).1, rfl⟩⟩ (fun _ _ => rfl)
  have Gfh : ∀ (w z : Nat → Int32) (hh : xb_H), f0 own h F hh F → f0 own h F hh (G w z) := fun w z hh hfh => ⟨hfh.1, hfh.2.1, hfh.2.2.1, fun a ha => ⟨(hfh.2.2.2 a ha).1, ((Gf w z).2.2.2 a ha).2⟩⟩
  have rl9 : ∀ hh : xb_H, f0 own h F hh F → xb_n hh (A 33) = rl ∧ rl ≤ 512000 := fun hh hfh => ⟨by rw [hfh.2.1]; exact q1, q3⟩
  have hres : ∀ w z, ∀ j, j < qt (DM m) 2 → (ub (qc (DM m)) (kpo (DM m) j)).toInt = 3 → ∃ g : Nat, (G w z (A 33) (vN v 34 + j)).toInt = g ∧ g < 4096 := fun w z j hj h9 => by
    rw [Go w z 33 (by decide) (by decide) (by decide)]
    obtain ⟨-, -, -, o3⟩ := hI j hj
    obtain ⟨g, y1, y2, -⟩ := o3 h9
    exact ⟨g, y1, by omega⟩
  have hg58 : ∀ j, j < qt (DM m) 2 → (ub (qc (DM m)) (kpo (DM m) j)).toInt = 3 → ∃ g : Nat, (F (A 33) (vN v 34 + j)).toInt = g ∧ g < vN v 58 := fun j hj h9 => by
    obtain ⟨-, -, -, o3⟩ := hI j hj
    obtain ⟨g, y1, y2, -⟩ := o3 h9
    exact ⟨g, y1, y2⟩
  have eG : ∀ w z, va_up (va_up F (A 59) w) (A 60) z = G w z := fun w z => by rw [hG]
  have oGF : ∀ w z κ, oV A (G w z) DM (vN v 30) κ = oV A F DM (vN v 30) κ := fun w z κ => oV.cg (Go w z 31 (by decide) (by decide) (by decide)) (Go w z 32 (by decide) (by decide) (by decide)) (Go w z 33 (by decide) (by decide) (by decide)) (Go w z 37 (by decide) (by decide) (by decide)) (Go w z 38 (by decide) (by decide) (by decide))
  -- after the variables
  have rest : ∀ (w z u : Nat → Int32) (hh : xb_H), f0 own h F hh F → (∀ j, j < vN v 58 → w j = F (A 59) j) → (∀ k, k < qt (DM m) 6 → (w (vN v 58 + k)).toInt = vty (DM m) (iM (DM m) 3 + k)) → vg v u → u 17 = 0 → ivW A h F v (DM m) (vN v 34) (qt (DM m) 6) hh w z → w_M_rowsFit mm x12 9 (mH hh (G w z) mm u) (fun (r6 : Int32) (h5 : xb_H) => xb_ext (mH hh (G w z) mm u) h5 → ((r6 = (0 : Int32) → w_M_instantiate_L478 Qr h5 bc bs) ∧ (¬ r6 = (0 : Int32) → w_M_rowsFit mm x12 11 h5 (fun (r9 : Int32) (h8 : xb_H) => xb_ext h5 h8 → ((¬ r9 = (0 : Int32) → w_M_settle mm x12 x1 h8 (fun (h11 : xb_H) => xb_ext h8 h11 → w_M_writeRows mm x12 h11 (fun (h13 : xb_H) => xb_ext h11 h13 → w_M_refuse mm 0 0 h13 (fun (r16 : Int32) (h15 : xb_H) => xb_ext h13 h15 → w_M_manyOf mm x1 8 h15 (fun (r18 : Int32) (h17 : xb_H) => xb_ext h15 h17 → ((r18 ≤ (0 : Int32) → w_M_instantiate_L554 Qr x12 h17 bc bs) ∧ (¬ r18 ≤ (0 : Int32) → w_M_placeOf mm x1 8 0 h17 (fun (r21 : Int32) (h20 : xb_H) => xb_ext h17 h20 → w_M_go mm x1 r21 h20 (fun (h22 : xb_H) => xb_ext h20 h22 → w_M_count mm h22 (fun (r25 : Int64) (h24 : xb_H) => xb_ext h22 h24 → w_M_meant mm x12 0 (Int64.toInt32 r25) h24 (fun (r27 : Int32) (h26 : xb_H) => xb_ext h24 h26 → ∀ h28 : xb_H, h28 = xb_I h26 mm 64 r27 → ∀ h29 : xb_H, h29 = xb_I h28 mm 62 1 → ∀ h30 : xb_H, h30 = xb_I h29 mm 63 0 → ∀ h31 : xb_H, h31 = xb_I h30 mm 93 0 → w_M_instantiate_L554 Qr x12 h31 bc bs))))))))))) ∧ (r9 = (0 : Int32) → w_M_instantiate_L478 Qr h8 bc bs)))))) := by
    intro w z u hh hfh hw hwt gu zu hiv
    have hcn : ∀ s k E p3 L, rowP (DM m) s k E p3 L → cnV A hh (G w z) (DM m) (vN v 34) (cE (qc (DM m)) (qp (DM m) s k)) = cnV A h F (DM m) (vN v 34) (cE (qc (DM m)) (qp (DM m) s k)) := fun s k E p3 L hr => cnV.cg2 hr.1 (Go w z 33 (by decide) (by decide) (by decide)) hg58 (fun g hg9 => (hiv.2.1 g hg9).2.2)
    have Au := GA w z u hh hfh hw gu zu
    have Xu := GX w z hh hfh
    have e30 := ev u gu 30 (by decide)
    have e34 := ev u gu 34 (by decide)
    have Gm : (G w z (A 31) (vN v 30)).toInt = m := by rw [Go w z 31 (by decide) (by decide) (by decide)]; exact d1
    have Gp : (G w z (A 32) (vN v 30)).toInt = vN v 34 := by rw [Go w z 32 (by decide) (by decide) (by decide)]; exact d2
    have oe : ∀ κ, oV A (G w z) DM (vN v 30) κ = if 0 < iM (DM m) κ then G w z (A 33) (vN v 34 + ikx (DM m) κ (qt (DM m) 2) 0) else if κ = 1 then G w z (A 37) (vN v 30) else G w z (A 38) (vN v 30) := fun κ => by
      unfold oV
      rw [Gm, Gp, Int.toNat_natCast, Int.toNat_natCast]
    -- which table and which memory
    have hg1 : 0 < iM (DM m) 1 + qt (DM m) (3 + 1) → ∃ g tz : Nat, (oV A (G w z) DM (vN v 30) 1).toInt = g ∧ g < 24 ∧ (G w z (A 49) g).toInt = tz := fun h9 => by
      rw [oe 1, Go w z 33 (by decide) (by decide) (by decide), Go w z 37 (by decide) (by decide) (by decide), Go w z 49 (by decide) (by decide) (by decide)]
      by_cases hl : 0 < iM (DM m) 1
      · rw [if_pos hl]
        obtain ⟨g3, g4, g5⟩ := ikx_f (D := DM m) (κ := 1) (n := qt (DM m) 2) hl
        obtain ⟨-, o1, -, -⟩ := hI _ g3
        obtain ⟨g, y1, y2⟩ := o1 g4
        obtain ⟨tf, tz, t1, t2, t3⟩ := wt g y2
        exact ⟨g, tz, y1, by omega, t2⟩
      · rw [if_neg hl, if_pos rfl]
        obtain ⟨-, tz, t2, t3⟩ := hT (by have : qt (DM m) (3 + 1) = qt (DM m) 4 := rfl; omega)
        exact ⟨vN v 46, tz, d5, by omega, t2⟩
    have hg2 : 0 < iM (DM m) 2 + qt (DM m) (3 + 2) → ∃ g pc : Nat, (oV A (G w z) DM (vN v 30) 2).toInt = g ∧ g < 24 ∧ (G w z (A 54) g).toInt = pc ∧ pc ≤ 16 := fun h9 => by
      rw [oe 2, Go w z 33 (by decide) (by decide) (by decide), Go w z 38 (by decide) (by decide) (by decide), Go w z 54 (by decide) (by decide) (by decide)]
      by_cases hl : 0 < iM (DM m) 2
      · rw [if_pos hl]
        obtain ⟨g3, g4, g5⟩ := ikx_f (D := DM m) (κ := 2) (n := qt (DM m) 2) hl
        obtain ⟨-, -, o1, -⟩ := hI _ g3
        obtain ⟨g, y1, y2⟩ := o1 g4
        obtain ⟨pc, t1, t2⟩ := wm g y2
        exact ⟨g, pc, y1, by omega, t1, by omega⟩
      · rw [if_neg hl, if_neg (by decide)]
        obtain ⟨pc, t2, t3⟩ := hP (by have : qt (DM m) (3 + 2) = qt (DM m) 5 := rfl; omega)
        exact ⟨vN v 52, pc, d6, by omega, t2, by omega⟩
    obtain ⟨ga, hga⟩ : ∃ ga : Nat, ga = (oV A (G w z) DM (vN v 30) 1).toInt.toNat := ⟨_, rfl⟩
    obtain ⟨gb, hgb⟩ : ∃ gb : Nat, gb = (oV A (G w z) DM (vN v 30) 2).toInt.toNat := ⟨_, rfl⟩
    obtain ⟨H1, hH1⟩ : ∃ H1, H1 = (G w z (A 49) ga).toInt := ⟨_, rfl⟩
    obtain ⟨H2, hH2⟩ : ∃ H2, H2 = 65536 * (G w z (A 54) gb).toInt := ⟨_, rfl⟩
    have ega : ga = (oV A F DM (vN v 30) 1).toInt.toNat := by rw [hga, oGF]
    have egb : gb = (oV A F DM (vN v 30) 2).toInt.toNat := by rw [hgb, oGF]
    have eH1 : H1 = rfH A F DM (vN v 30) 9 := by
      unfold rfH
      rw [if_pos rfl, hH1, ← ega, Go w z 49 (by decide) (by decide) (by decide)]
    have eH2 : H2 = rfH A F DM (vN v 30) 11 := by
      unfold rfH
      rw [if_neg (by decide), hH2, ← egb, Go w z 54 (by decide) (by decide) (by decide)]
    have fail : ∀ (u' : Nat → Int32) (c kx : Int32) (k : Nat), vg v u' → u' 17 = 0 → kx.toInt = k → rfW A h F DM (DM m) (vN v 30) (vN v 34) c k → w_M_instantiate_L478 Qr (mH hh (va_up (G w z) (A 89) (va_up (va_up (G w z (A 89)) 0 c) 1 kx)) mm u') bc bs := fun u' c kx k gu' zu' hkx hrf => by
      unfold w_M_instantiate_L478
      have q := hQf hh w z u' c kx k
      rw [eG] at q
      rw [Go w z 89 (by decide) (by decide) (by decide)]
      exact q ((Gfh w z hh hfh).tr (f0.aw (by rw [hB.o (by decide)]; omega))) hiv gu' zu' hkx hrf ((GA w z u' hh hfh hw gu' zu').aw (by decide) (by decide) (by decide) (by decide))
    refine m_rowsFitE (s := 9) (κ := 1) (g := ga) (H := H1) (rl9 hh hfh) Xu hV zu h12 m1 rfl (.inl ⟨rfl, rfl⟩) Gm Gp m5 (hres w z) (fun h9 => ?_) (fun v1 c kx k g1 z1 hkx hc hrf _ => ⟨fun _ => fail v1 c kx k (gu.tr g1) z1 hkx (.inl ⟨hc.trans (if_pos rfl), by rw [← eH1]; exact hrf.cg (hcn 9)⟩), fun h9 => absurd rfl h9⟩) (fun v1 g1 z1 RF1 _ => ⟨fun h9 => absurd h9 (by decide), fun _ => ?_⟩)
    · obtain ⟨g, tz, y1, y2, y3⟩ := hg1 h9
      have : ga = g := by omega
      subst this
      exact ⟨y1, y2, fun _ => hH1.symm, fun e => by omega⟩
    have RA1 : rfA A h F (DM m) (vN v 34) 9 (rfH A F DM (vN v 30) 9) := fun k hk E p3 L hr => by rw [← hcn 9 k E p3 L hr, ← eH1]; exact RF1 k hk E p3 L hr
    refine m_rowsFitE (s := 11) (κ := 2) (g := gb) (H := H2) (rl9 hh hfh) Xu hV z1 h12 m1 rfl (.inr ⟨rfl, rfl⟩) Gm Gp m5 (hres w z) (fun h9 => ?_) (fun v2 c kx k g2 z2 hkx hc hrf _ => ⟨fun h9 => absurd rfl h9, fun _ => fail v2 c kx k ((gu.tr g1).tr g2) z2 hkx (.inr ⟨hc.trans (if_neg (by decide)), RA1, by rw [← eH2]; exact hrf.cg (hcn 11)⟩)⟩) (fun v2 g2 z2 RF2 _ => ⟨fun _ => ?_, fun h9 => absurd h9 (by decide)⟩)
    · obtain ⟨g, pc, y1, y2, y3, y4⟩ := hg2 h9
      have : gb = g := by omega
      subst this
      exact ⟨y1, y2, fun e => by omega, fun _ => ⟨hH2.symm, by omega, by omega⟩⟩
    have RA2 : rfA A h F (DM m) (vN v 34) 11 (rfH A F DM (vN v 30) 11) := fun k hk E p3 L hr => by rw [← hcn 11 k E p3 L hr, ← eH2]; exact RF2 k hk E p3 L hr
    -- it settles
    have G2 := (gu.tr g1).tr g2
    have A2 := GA w z v2 hh hfh hw G2 z2
    have e2 := fun k hk => ev v2 G2 k hk
    have hN2 : nwI A (G w z) v2 DM rl m := by
      unfold nwI
      rw [e2 30 (by decide), e2 5 (by decide), e2 43 (by decide), e2 58 (by decide), e2 34 (by decide), e2 46 (by decide), e2 52 (by decide), e2 47 (by decide), e2 53 (by decide), Go w z 31 (by decide) (by decide) (by decide), Go w z 32 (by decide) (by decide) (by decide), Go w z 35 (by decide) (by decide) (by decide), Go w z 36 (by decide) (by decide) (by decide), Go w z 37 (by decide) (by decide) (by decide), Go w z 38 (by decide) (by decide) (by decide), Go w z 48 (by decide) (by decide) (by decide), Go w z 49 (by decide) (by decide) (by decide), Go w z 54 (by decide) (by decide) (by decide), Go w z 33 (by decide) (by decide) (by decide), G59]
      refine ⟨⟨m1, m2, m3, m4, m5, m6⟩, ⟨d1, d2, d3, d4, d5, d6⟩, hT, hP, fun k hk => ?_, hwt⟩
      refine (hI k hk).c (φ' := fun k => G w z (A k)) (ν' := v2) ?_ ?_ ?_ (fun g hg9 => ?_) (fun k hk => ?_)
      · exact Go w z 31 (by decide) (by decide) (by decide)
      · exact Go w z 44 (by decide) (by decide) (by decide)
      · exact Go w z 45 (by decide) (by decide) (by decide)
      · show G w z (A 59) g = F (A 59) g
        rw [G59]
        exact hw g hg9
      · have q : ∀ k, k ∈ [43, 46, 52, 58] → k ≠ 14 ∧ k ≠ 15 ∧ k ≠ 16 ∧ k ≠ 17 ∧ k ≠ 18 := by decide
        obtain ⟨c1, c2, c3, c4, c5⟩ := q k hk
        exact G2 k c1 c2 c3 c4 c5
    have z62 : v2 62 = 0 := by rw [G2 62 (by decide) (by decide) (by decide) (by decide) (by decide)]; exact h62
    refine m_settle A2 hN2 z62 (by rw [e2 30 (by decide)]; exact h12) h1 (fun F3 v3 f3 k3 vv3 t30 A3 X3 _ => ?_)
    have e33 : F3 (A 33) = G w z (A 33) := k3 33 (by decide) (by decide)
    have i3 : vN v 30 < vN v3 30 := by rw [t30, e2 30 (by decide)]; omega
    have c3' : ∀ p, cnV A hh F3 (DM m) (vN v 34) p = cnV A hh (G w z) (DM m) (vN v 34) p := fun p => cnV.cg e33
    have o3' : ∀ κ, oV A F3 DM (vN v 30) κ = oV A (G w z) DM (vN v 30) κ := fun κ => oV.cg (k3 31 (by decide) (by decide)) (k3 32 (by decide) (by decide)) e33 (k3 37 (by decide) (by decide)) (k3 38 (by decide) (by decide))
    refine m_writeRows (i := vN v 30) (m := m) (ip := vN v 34) (g1 := ga) (g2 := gb) (H1 := H1) (H2 := H2) A3 h12 i3 (by rw [k3 31 (by decide) (by decide)]; exact Gm) (by rw [k3 32 (by decide) (by decide)]; exact Gp) (fun h9 => ?_) (fun h9 => ?_) (fun k hk E p3 L hr => by rw [c3']; exact RF1 k hk E p3 L hr) (fun k hk E p3 L hr => by rw [c3']; exact RF2 k hk E p3 L hr) (fun F4 v4 f4 g4 z4 k4 A4 X4 _ => ?_)
    · rw [o3', k3 49 (by decide) (by decide)]
      obtain ⟨g, tz, y1, y2, y3⟩ := hg1 h9
      exact ⟨by omega, hH1.symm⟩
    · rw [o3', k3 54 (by decide) (by decide)]
      obtain ⟨g, pc, y1, y2, y3, y4⟩ := hg2 h9
      exact ⟨by omega, hH2.symm⟩
    refine m_refuseE A4.B (fun _ => ?_)
    obtain ⟨w5, hw5⟩ : ∃ w5 : Nat → Int32, w5 = va_up (va_up (F4 (A 89)) 0 0) 1 0 := ⟨_, rfl⟩
    rw [← hw5]
    have mk : ∀ v5, srT A (va_up F4 (A 89) w5) DM (DM m) (vN v 30) v4 v5 → mdX A h F v DM m hh (va_up F4 (A 89) w5) v5 := fun v5 hs => ⟨w, z, v2, v3, v4, F3, F4, hiv, G2, by rw [eG]; exact X3, by rw [eG]; exact k3, vv3, by rw [t30, e2 30 (by decide)], RA1, RA2, by rw [← ega, ← egb]; exact X4, k4, g4, by rw [hw5], hs⟩
    have A5 : rA own mm A hh (va_up F4 (A 89) w5) v4 DM len rl K := A4.aw (by decide) (by decide) (by decide) (by decide)
    have f5 : f0 own h F hh (va_up F4 (A 89) w5) := (((Gfh w z hh hfh).tr f3).tr f4).tr (f0.aw (by rw [hB.o (by decide)]; omega))
    have v35 : vN v3 5 = vN v 5 := by
      have : v3 5 = v2 5 := vv3 5 (by decide)
      unfold vN at *
      rw [this]
      exact e2 5 (by decide)
    have v45 : vN v4 5 = vN v 5 := by
      unfold vN at *
      rw [g4 5 (by decide) (by decide) (by decide) (by decide) (by decide)]
      exact v35
    have X5 := A5.X (m := m) (by rw [v45]; exact m2)
    refine m_manyOf X5 h1 (s := 8) rfl (by decide) (fun r18 e18 _ => ⟨fun hle => ?_, fun hle => ?_⟩)
    · unfold w_M_instantiate_L554
      rw [z_le, e18] at hle
      simp only [Int32.reduceToInt] at hle
      exact hQs hh _ v4 f5 (mk v4 (.inl ⟨by omega, rfl⟩)) A5
    · rw [z_le, e18] at hle
      simp only [Int32.reduceToInt] at hle
      have h8 : 0 < qt (DM m) 8 := by omega
      obtain ⟨c1, q, ⟨x, rx⟩, c3⟩ := (hX.2.2.2.2.2.1 8 (by decide)).2 0 h8
      obtain ⟨s1, s2⟩ := hV.2.2.2.2.1 h8
      have rb := rC_b rx
      have eC := (rC_E rx).2
      have bi := hX.2.2.ib (κ := 0)
      have b3 := (hX.2.2.2.2.2.1 3 (by decide)).1
      refine m_placeOf X5 h1 (s := 8) rfl (by decide) (k := 0) rfl h8 (fun r21 e21 _ => m_go_k X5 z4 h1 e21 c1 (by omega) (fun v6 k6 _ => m_count_k X5.rd k6.2.2.1 k6.2.2.2 rx c3 (fun v7 o7 z7 _ => ?_)))
      have A7 := A5.vg (k6.1.tr o7.vg) z7
      have ex : (Int64.toInt32 x).toInt = (cV (qc (DM m)) (qp (DM m) 8 0) : Nat) := by
        rw [z_of64, eC]
        rw [eC] at s1
        omega
      have i7 : vN v 30 < vN v7 30 := by
        have : v7 30 = v4 30 := (k6.1.tr o7.vg) 30 (by decide) (by decide) (by decide) (by decide) (by decide)
        have h4 : v4 30 = v3 30 := g4 30 (by decide) (by decide) (by decide) (by decide) (by decide)
        unfold vN at *
        rw [this, h4]
        exact i3
      have m7 : (va_up F4 (A 89) w5 (A 31) (vN v 30)).toInt = m := by
        rw [xh_up, if_neg (hB.ne (by decide) (by decide) (by decide)), k4 31 (by decide) (by decide) (by decide), k3 31 (by decide) (by decide)]
        exact Gm
      refine m_meantE (κ := 0) (k := cV (qc (DM m)) (qp (DM m) 8 0)) A7 h12 i7 rfl (by decide) ex m7 s1 (fun v8 r27 g g8 z8 e27 egm f0' _ _ _ _ h28 e28 h29 e29 h30 e30' h31 e31 => ?_)
      obtain ⟨o1, o2, o3⟩ := f0' rfl
      have A8 := A7.vg g8 z8
      rw [mH_I] at e28; subst e28
      rw [mH_I] at e29; subst e29
      rw [mH_I] at e30'; subst e30'
      rw [mH_I] at e31; subst e31
      have n66 := A8.W1.1 (66, 1000) (by decide)
      unfold w_M_instantiate_L554
      refine hQs hh _ _ f5 (mk _ (.inr ⟨h8, v8, (k6.1.tr o7.vg).tr g8, ?_, ?_, ?_, ?_, fun k hk => ?_⟩)) (A8.uw (f := g) (n := 0) (fun k hk => ?_) ?_ ?_ ?_ ?_ ?_ (by decide) ?_)
      · rw [xh_up, if_neg (by decide), xh_up, if_neg (by decide), xh_up, if_neg (by decide), xh_up, if_pos rfl, e27, egm]
      · rw [xh_up, if_neg (by decide), xh_up, if_neg (by decide), xh_up, if_pos rfl]
      · rw [xh_up, if_neg (by decide), xh_up, if_pos rfl]
      · rw [xh_up, if_pos rfl]
      · have q : ∀ j, j ∈ [62, 63, 64, 93] → k ≠ j := fun j hj e => hk (e ▸ hj)
        rw [xh_up, if_neg (q 93 (by decide)), xh_up, if_neg (q 63 (by decide)), xh_up, if_neg (q 62 (by decide)), xh_up, if_neg (q 64 (by decide))]
      · have q : ∀ j, j ∈ [0, 62, 63, 64, 66, 93] → k ≠ j := fun j hj e => hk (e ▸ hj)
        rw [xh_up, if_neg (q 93 (by decide)), xh_up, if_neg (q 63 (by decide)), xh_up, if_neg (q 62 (by decide)), xh_up, if_neg (q 64 (by decide))]
      · rw [xh_up, if_neg (by decide), xh_up, if_pos rfl]
      · rw [xh_up, if_neg (by decide), xh_up, if_neg (by decide), xh_up, if_neg (by decide), xh_up, if_pos rfl]; exact e27
      · unfold fnO vN at *
        rw [g8 43 (by decide) (by decide) (by decide) (by decide) (by decide)]
        exact o1
      · rw [xh_up, if_pos rfl]; rfl
      · rw [o2, ptl_len, s2]
      · rw [xh_up, if_neg (by decide), xh_up, if_neg (by decide), xh_up, if_neg (by decide), xh_up, if_neg (by decide)]
        exact n66
  -- the variables
  have key : ∀ (nf k : Nat) (x13 : Int32) (w z u : Nat → Int32) (hh : xb_H), qt (DM m) 6 - k ≤ nf → x13.toInt = k → k ≤ qt (DM m) 6 → f0 own h F hh F → (∀ j, j < vN v 58 → w j = F (A 59) j) → (∀ j, j < k → (w (vN v 58 + j)).toInt = vty (DM m) (iM (DM m) 3 + j)) → vg v u → u 17 = 0 → ivW A h F v (DM m) (vN v 34) k hh w z → w_M_instantiate_L365 Qr (nf + 1) mm x1 x12 x13 (mH hh (G w z) mm u) bc bs := by
    intro nf
    induction nf with
    | zero =>
      intro k x13 w z u hh hn h13 hk hfh hw hwt gu zu hiv
      unfold w_M_instantiate_L365
      refine ⟨(GX w z hh hfh).1.2.1, m_manyOf (GX w z hh hfh) h1 (s := 6) rfl (by decide) (fun r hr _ => ⟨fun _ => rest w z u hh hfh hw (fun j hj => hwt j (by omega)) gu zu (by rw [show qt (DM m) 6 = k by omega]; exact hiv), fun hle => ?_⟩)⟩
      rw [z_le, hr, h13] at hle
      omega
    | succ nf ih =>
      intro k x13 w z u hh hn h13 hk hfh hw hwt gu zu hiv
      have XX := GX w z hh hfh
      unfold w_M_instantiate_L365
      refine ⟨XX.1.2.1, m_manyOf XX h1 (s := 6) rfl (by decide) (fun r hr _ => ⟨fun hle => ?_, fun hle => ?_⟩)⟩
      · rw [z_le, hr, h13] at hle
        exact rest w z u hh hfh hw (fun j hj => hwt j (by omega)) gu zu (by rw [show qt (DM m) 6 = k by omega]; exact hiv)
      · rw [z_le, hr, h13] at hle
        have hk6 : k < qt (DM m) 6 := by omega
        have nx1 : qt (DM m) 6 - (k + 1) ≤ nf := z_mE hn (Nat.lt_succ_self k)
        have nx2 : (x13 + 1).toInt = (k + 1 : Nat) := z_inc h13 (by omega)
        obtain ⟨c1, q, ⟨p1, rv, exx⟩, c3⟩ := (hX.2.2.2.2.2.1 6 (by decide)).2 k hk6
        have ep := rv.2.2
        subst ep
        have exl := exx.1
        obtain ⟨EE, ck, ckE9⟩ := hV.2.2.1 k hk6
        have u58 : u 58 = v 58 := gu 58 (by decide) (by decide) (by decide) (by decide) (by decide)
        have rk : ∀ (hq : xb_H), f0 own h F hq F → ∀ j a, xb_r h mm j = some a → xb_r hq mm j = some a := fun hq hfq j a ha => by rw [hfq.2.2.1]; exact ha
        refine m_placeOf XX h1 (s := 6) rfl (by decide) h13 hk6 (fun r33 e33 _ => m_go_k XX zu h1 e33 c1 (by omega) (fun v1 k1 _ => ⟨A 59, rk hh hfh 59 _ a59, m_next_k XX.rd k1.2.2.1 k1.2.2.2 (by omega) (fun v2 o2 z2 _ => ⟨by show xb_k hh (A 59) = 102; rw [hfh.1]; exact a59', ?_, fun h41 e41 => ?_⟩)⟩))
        · have e158 : v1 58 = v 58 := by rw [k1.1 58 (by decide) (by decide) (by decide) (by decide) (by decide)]; exact u58
          rw [mH_i, e158, z_in, z_ad2 n58 h13 (by omega) (by omega)]
          show _ ∧ _ < ((xb_n hh (A 59) : Nat) : Int)
          rw [hfh.2.1]
          omega
        · have e158 : v1 58 = v 58 := by rw [k1.1 58 (by decide) (by decide) (by decide) (by decide) (by decide)]; exact u58
          have e258 : v2 58 = v 58 := by rw [o2.1 58 (by decide) (by decide) (by decide)]; exact e158
          rw [mH_i, e158, mH_A a59m, z_cl, z_ad2 n58 h13 (by omega) (by omega), Int.toNat_natCast, G59] at e41
          have eG : va_up (G w z) (A 59) (va_up w (vN v 58 + k) (ub (qc (DM m)) (qp (DM m) 6 k))) = G (va_up w (vN v 58 + k) (ub (qc (DM m)) (qp (DM m) 6 k))) z := by
            have n60 : A 59 ≠ A 60 := hB.ne (by decide) (by decide) (by decide)
            rw [hG]
            funext a
            simp only [xh_up]
            by_cases h8 : a = A 60
            · subst h8
              simp only [if_true, if_neg (Ne.symm n60)]
            · simp only [if_neg h8]
              by_cases h7 : a = A 59
              · subst h7
                simp only [if_true]
              · simp only [if_neg h7]
          rw [eG] at e41
          subst e41
          obtain ⟨w2, hw2⟩ : ∃ w2, w2 = va_up w (vN v 58 + k) (ub (qc (DM m)) (qp (DM m) 6 k)) := ⟨_, rfl⟩
          rw [← hw2]
          have hw2a : ∀ j, j < vN v 58 → w2 j = F (A 59) j := fun j hj => by
            rw [hw2, xh_up, if_neg (by omega)]
            exact hw j hj
          have hw2b : ∀ j, j < k + 1 → (w2 (vN v 58 + j)).toInt = vty (DM m) (iM (DM m) 3 + j) := fun j hj => by
            rw [hw2, xh_up]
            by_cases h9 : j = k
            · subst h9
              rw [if_pos rfl]
              unfold vty vpo
              rw [if_neg (by omega), show iM (DM m) 3 + j - iM (DM m) 3 = j by omega]
            · rw [if_neg (by omega)]
              exact hwt j (by omega)
          have X2 := GX w2 z hh hfh
          rw [mH_i, e258]
          refine ⟨A 60, rk hh hfh 60 _ a60, m_next_k X2.rd (o2.P k1.2.2.1) z2 (by omega) (fun v3 o3 z3 _ => ?_)⟩
          have K3 := (k1.go o2 z2).go o3 z3
          have e358 : v3 58 = v 58 := by rw [o3.1 58 (by decide) (by decide) (by decide)]; exact e258
          have L431 : ∀ y0 : Int32, y0 = (if ub (qc (DM m)) (qp (DM m) 6 k + 1) = 1 then 1 else 0) → w_M_instantiate_L431 (w_M_instantiate_L365 Qr (nf + 1)) Qr mm x1 x12 x13 y0 (v 58 + x13) (A 60) (mH hh (G w2 z) mm v3) bc bs := by
            intro y0 hy0
            unfold w_M_instantiate_L431
            refine ⟨by show xb_k hh (A 60) = 101; rw [hfh.1]; exact a60', ?_, fun h3 e3 => ?_⟩
            · rw [z_in, z_ad2 n58 h13 (by omega) (by omega)]
              show _ ∧ _ < ((xb_n hh (A 60) : Nat) : Int)
              rw [hfh.2.1]
              omega
            rw [mH_A a60m, G60] at e3
            have eG2 : ∀ z2, va_up (G w2 z) (A 60) z2 = G w2 z2 := fun z2 => by
              rw [hG]
              funext a
              simp only [xh_up]
              split <;> rfl
            rw [eG2] at e3
            subst e3
            obtain ⟨z', hz'⟩ : ∃ z', z' = va_up z (v 58 + x13).toNatClampNeg (vp_nar .boolean y0) := ⟨_, rfl⟩
            rw [← hz']
            have X3 := GX w2 z' hh hfh
            rw [mH_i, e358]
            refine ⟨X3.1.2.1, A 61, rk hh hfh 61 _ a61, m_constant (p := qp (DM m) 6 k + 2) (ip := vN v 34) (v0 := u) X3 m1 h12 (by rw [Go w2 z' 31 (by decide) (by decide) (by decide)]; exact d1) (by rw [Go w2 z' 32 (by decide) (by decide) (by decide)]; exact d2) (rl9 hh hfh) m5 (hres w2 z') ck ckE9 K3 (fun v4 k4 _ => ⟨by show xb_k hh (A 61) = 103; rw [hfh.1]; exact a61', ?_, fun h10 e10 => ?_⟩)⟩
            · rw [z_in, z_ad2 n58 h13 (by omega) (by omega)]
              show _ ∧ _ < ((xb_n hh (A 61) : Nat) : Int)
              rw [hfh.2.1]
              omega
            · have e10' : h10 = mH (xb_L hh (A 61) (v 58 + x13).toNatClampNeg (cnV A hh (G w2 z') (DM m) (vN v 34) (qp (DM m) 6 k + 2))) (G w2 z') mm v4 := e10
              subst e10'
              have ecl : (v 58 + x13).toNatClampNeg = vN v 58 + k := by rw [z_cl, z_ad2 n58 h13 (by omega) (by omega), Int.toNat_natCast]
              obtain ⟨i1, i2, i3⟩ := hiv
              have ecn : cnV A hh (G w2 z') (DM m) (vN v 34) (qp (DM m) 6 k + 2) = cnV A h F (DM m) (vN v 34) (qp (DM m) 6 k + 2) := cnV.cg2 ck (Go w2 z' 33 (by decide) (by decide) (by decide)) hg58 (fun g hg9 => (i2 g hg9).2.2)
              refine ih (k + 1) (x13 + 1) w2 z' v4 _ nx1 nx2 hk6 (hfh.tr (f0.L (by rw [hB.o (by decide)]; omega))) hw2a hw2b (gu.tr k4.1) k4.2.2.2 ⟨fun a ha => by rw [xh_lL, if_neg ha]; exact i1 a ha, fun j hj => ⟨hw2a j hj, ?_, ?_⟩, fun j hj => ⟨hw2b j hj, ?_, ?_⟩⟩
              · rw [hz', ecl, xh_up, if_neg (by omega)]
                exact (i2 j hj).2.1
              · rw [xh_lL, if_pos rfl, ecl, xh_up, if_neg (by omega)]
                exact (i2 j hj).2.2
              · rw [hz', ecl, xh_up]
                by_cases h9 : j = k
                · subst h9
                  rw [if_pos rfl, hy0]
                  split <;> rfl
                · rw [if_neg (by omega)]
                  exact (i3 j (by omega)).2.1
              · rw [xh_lL, if_pos rfl, ecl, xh_up]
                by_cases h9 : j = k
                · subst h9
                  rw [if_pos rfl]
                  exact ecn
                · rw [if_neg (by omega)]
                  exact (i3 j (by omega)).2.2
          exact ⟨fun hx => L431 0 (by rw [if_neg hx]), fun hx => L431 1 (by rw [if_pos hx])⟩
  unfold w_M_instantiate_L362
  have := key (qt (DM m) 6) 0 0 (F (A 59)) (F (A 60)) v h (by omega) rfl (by omega) f0.rf (fun _ _ => rfl) (fun j hj => by omega) vg.rf hA.z ⟨fun _ _ => rfl, fun _ _ => ⟨rfl, rfl, rfl⟩, fun j hj => by omega⟩
  rw [hG] at this
  have e59 : va_up (va_up F (A 59) (F (A 59))) (A 60) (F (A 60)) = F := by rw [va_id, va_id]
  simp only [e59] at this
  exact ⟨qt (DM m) 6 + 1, this⟩
theorem m_inst365 {x1 x12 : Int32} (hA : rA own mm A h F v DM len rl K) (hJ : nwJ A F v DM rl m) (h62 : v 62 = 0) (h1 : x1.toInt = m) (h12 : x12.toInt = vN v 30) (hg : rG len rl rc rs K bc bs) (hQ : ∀ r, rQq own mm h F rc rs K (Qr r)) : w_M_instantiate_L362 Qr mm x1 x12 (mH h F mm v) bc bs :=
  m_inst365E hA hJ h62 h1 h12 (fun hh w z v' c kx k f _ _ _ _ _ a => hQ (-1) own A hh _ v' DM len rl bc bs f.z a hg) (fun hh F5 v5 f _ a => hQ x12 own A hh F5 v5 DM len rl bc bs f.z a hg)
end MN7

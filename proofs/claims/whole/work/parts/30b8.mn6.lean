-- the reference: rows are written
/-- where a row's constant ends -/
noncomputable def rwE (D : zM) (s k : Nat) : Nat := @dite _ (∃ E, ckE D (cE (qc D) (qp D s k)) E) (Classical.propDecidable _) (fun hq => Classical.choose hq) (fun _ => 0)
theorem ckE_f {D : zM} {p E E' : Nat} (h : ckE D p E) (h' : ckE D p E') : E = E' := by
  obtain ⟨q, a1, a2, a3⟩ := h
  obtain ⟨q', b1, b2, b3⟩ := h'
  have e35 : (35 : Int32).toInt = 35 := rfl
  rcases a3 with ⟨c1, x, c2, -⟩ | ⟨op, c1, c2, c3, c4⟩
  · rcases b3 with ⟨d1, y, d2, -⟩ | ⟨op', d1, d2, d3, d4⟩
    · have := (rC_in c2 d2).1
      omega
    · rw [c1, e35] at d1
      omega
  · rcases b3 with ⟨d1, y, d2, -⟩ | ⟨op', d1, d2, d3, d4⟩
    · rw [d1, e35] at c1
      omega
    · have e : op = op' := by omega
      subst e
      have := rW_f c4 d4
      omega
theorem rowP.f {D : zM} {s k E p3 : Nat} {L : Int64} (h : rowP D s k E p3 L) : cE (qc D) (rwE D s k) = p3 ∧ cV (qc D) (rwE D s k) = L.toInt.toNat := by
  have hE : rwE D s k = E := by
    have hx : ∃ E, ckE D (cE (qc D) (qp D s k)) E := ⟨E, h.1⟩
    unfold rwE
    rw [dif_pos hx]
    exact ckE_f (Classical.choose_spec hx) h.1
  rw [hE]
  exact rC_E h.2.2.1
/-- a row's offset -/
def wrO (A : Nat → Nat) (h : xb_H) (F : Nat → Nat → Int32) (D : zM) (ip s k : Nat) : Nat := (cnV A h F D ip (cE (qc D) (qp D s k)) &&& 4294967295).toInt.toNat
/-- what rows write: elements, bytes -/
def wrW (A : Nat → Nat) (h : xb_H) (F : Nat → Nat → Int32) (DM : Nat → zM) (D : zM) (i ip g1 g2 : Nat) (F' : Nat → Nat → Int32) : Prop :=
  (∀ e, (F' (A 51) e).toInt = wrr (fun k => cV (qc D) (rwE D 9 k)) (fun k j => (F (A 48) g1).toInt.toNat + wrO A h F D ip 9 k + j) (fun k j => ((mnV A F DM i 0 (cV (qc D) ((cks (qc D) j (cE (qc D) (rwE D 9 k))).getD 0)) + 1 : Nat) : Int)) (fun e => (F (A 51) e).toInt) (qt D 9) e) ∧
  ∀ b, (F' (A 57) b).toInt % 256 = wrr (fun k => cV (qc D) (rwE D 11 k)) (fun k j => mpA (fun c => F (A 56) (16 * g2 + c)) (wrO A h F D ip 11 k + j)) (fun k j => (qc D (cE (qc D) (rwE D 11 k) + j)).toInt % 256) (fun b => (F (A 57) b).toInt % 256) (qt D 11) b
section MN6
variable {own own' : Nat → Nat} {mm m i ip k f t n : Nat} {A A' : Nat → Nat} {h h' h2 : xb_H} {F F' F2 : Nat → Nat → Int32} {v v' v2 v0 cb : Nat → Int32} {D : zM} {DM : Nat → zM} {len rl K rc rs bc bs E : Nat} {Qr : Int32 → xb_H → Prop} {Q : xb_H → Prop}
theorem rA.el {w : Nat → Int32} (hA : rA own mm A h F v DM len rl K) (hw : ∀ j, j < 16384 → w j = 0 ∨ ∃ f : Nat, (w j).toInt = (f + 1 : Nat) ∧ fnO v f) : rA own mm A h (va_up F (A 51) w) v DM len rl K := by
  have hB := hA.B
  have al : ∀ k, k ∈ aRI → ∃ e ∈ aL, e.1 = k := by decide
  have fa : ∀ k, (∃ e ∈ aL, e.1 = k) → k ≠ 51 → va_up F (A 51) w (A k) = F (A k) := fun k hk h9 => by rw [xh_up, if_neg (hB.ne hk (by decide) h9)]
  refine hA.ch (f0.aw (by rw [hB.o (by decide)]; omega)) (fa 90 (by decide) (by decide)) (fun a ha => by rw [xh_up, if_neg (fun e => by rw [e, hB.o (by decide)] at ha; omega)]) (hA.s rfl rfl) ⟨hA.W1, ?_⟩
  obtain ⟨b2, b3, b4, b5⟩ := hA.I.2
  have n43 := (hA.n (k := 43) (b := 8192) (by decide)).2
  have hg : Gr (fun k => F (A k)) v DM (fun k => va_up F (A 51) w (A k)) v DM := ⟨fun _ _ => Nat.le_refl _, fun _ _ => rfl, fun k hk i _ => by
    have q : ∀ k, k ∈ [31, 32, 35, 36, 37, 38] → (∃ e ∈ aL, e.1 = k) ∧ k ≠ 51 := by decide
    show va_up F (A 51) w (A k) i = F (A k) i
    rw [fa k (q k hk).1 (q k hk).2], fun j _ => by show va_up F (A 51) w (A 33) j = F (A 33) j; rw [fa 33 (by decide) (by decide)], fun f _ => by show va_up F (A 51) w (A 44) f = F (A 44) f ∧ va_up F (A 51) w (A 45) f = F (A 45) f; rw [fa 44 (by decide) (by decide), fa 45 (by decide) (by decide)]; exact ⟨rfl, rfl⟩, fun g _ => by show va_up F (A 51) w (A 59) g = F (A 59) g; rw [fa 59 (by decide) (by decide)]⟩
  refine ⟨fun m hm => ?_, fun i hi => (b3 i hi).gr hi hg b3 b4 n43, ?_, b5.gr hg b3 b4 n43 (fun k hk => ?_) (fun _ _ => rfl)⟩
  · have hK : ∀ k, k ∈ [3, 6, 7, 8, 9, 10, 11, 12] → va_up F (A 51) w (A k) = F (A k) := fun k hk9 => by
      have q : ∀ k, k ∈ [3, 6, 7, 8, 9, 10, 11, 12] → (∃ e ∈ aL, e.1 = k) ∧ k ≠ 51 := by decide
      exact fa k (q k hk9).1 (q k hk9).2
    exact b2.ag (φ' := fun k => va_up F (A 51) w (A k)) ⟨fun _ _ => by dsimp only; rw [hK 3 (by decide)], fun _ _ => by dsimp only; rw [hK 6 (by decide), hK 7 (by decide)]; exact ⟨rfl, rfl⟩, fun _ _ => by dsimp only; rw [hK 8 (by decide), hK 9 (by decide)]; exact ⟨rfl, rfl⟩, fun _ _ => by dsimp only; rw [hK 10 (by decide)], fun _ _ => by dsimp only; rw [hK 11 (by decide), hK 12 (by decide)]; exact ⟨rfl, rfl⟩⟩ (Nat.le_refl _) (Nat.le_refl _) (Nat.le_refl _) hm
  · obtain ⟨a1, a2, a3, a4, a5, a6, a7⟩ := b4
    unfold W4
    simp only [fa 44 (by decide) (by decide), fa 45 (by decide) (by decide), fa 48 (by decide) (by decide), fa 49 (by decide) (by decide), fa 54 (by decide) (by decide), fa 56 (by decide) (by decide), fa 59 (by decide) (by decide), fa 39 (by decide) (by decide), fa 40 (by decide) (by decide), fa 41 (by decide) (by decide)]
    refine ⟨fun f hf => ?_, a2, fun j hj => ?_, a4, a5, a6, a7⟩
    · obtain ⟨i, b, e1, e2, e3, e4⟩ := a1 f hf
      exact ⟨i, b, e1, e2, e3, by rw [hg.im e3]; exact e4⟩
    · rw [xh_up, if_pos rfl]
      exact hw j hj
  · have q : ∀ k, k ∈ runA → (∃ e ∈ aL, e.1 = k) ∧ k ≠ 51 := by decide
    exact fa k (q k hk).1 (q k hk).2
theorem oV.cg {κ : Nat} (h31 : F' (A 31) = F (A 31)) (h32 : F' (A 32) = F (A 32)) (h33 : F' (A 33) = F (A 33)) (h37 : F' (A 37) = F (A 37)) (h38 : F' (A 38) = F (A 38)) : oV A F' DM i κ = oV A F DM i κ := by
  unfold oV
  rw [h31, h32, h33, h37, h38]
theorem cnV.cg {p : Nat} (h33 : F' (A 33) = F (A 33)) : cnV A h F' D ip p = cnV A h F D ip p := by
  unfold cnV
  rw [h33]
theorem mnV.cg {κ : Nat} (h31 : F' (A 31) = F (A 31)) (h32 : F' (A 32) = F (A 32)) (h33 : F' (A 33) = F (A 33)) (h35 : F' (A 35) = F (A 35)) (h36 : F' (A 36) = F (A 36)) (h37 : F' (A 37) = F (A 37)) (h38 : F' (A 38) = F (A 38)) : mnV A F' DM i κ k = mnV A F DM i κ k := by
  unfold mnV
  rw [h31, h32, h33, h35, h36, h37, h38]
theorem m_writeRows {x1 : Int32} {g1 g2 : Nat} {H1 H2 : Int} (hA : rA own mm A h F v DM len rl K) (h1 : x1.toInt = i) (hi : i < vN v 30) (hm : (F (A 31) i).toInt = m) (hp : (F (A 32) i).toInt = ip)
    (f1 : 0 < iM (DM m) 1 + qt (DM m) (3 + 1) → (oV A F DM i 1).toInt = g1 ∧ (F (A 49) g1).toInt = H1) (f2 : 0 < iM (DM m) 2 + qt (DM m) (3 + 2) → (oV A F DM i 2).toInt = g2 ∧ 65536 * (F (A 54) g2).toInt = H2)
    (r1 : ∀ k, k < qt (DM m) 9 → ∀ E p3 L, rowP (DM m) 9 k E p3 L → (cnV A h F (DM m) ip (cE (qc (DM m)) (qp (DM m) 9 k)) &&& 4294967295).toInt + L.toInt ≤ H1) (r2 : ∀ k, k < qt (DM m) 11 → ∀ E p3 L, rowP (DM m) 11 k E p3 L → (cnV A h F (DM m) ip (cE (qc (DM m)) (qp (DM m) 11 k)) &&& 4294967295).toInt + L.toInt ≤ H2)
    (hQ : ∀ (F' : Nat → Nat → Int32) (v' : Nat → Int32), f0 own h F h F' → vg v v' → v' 17 = 0 → (∀ k, (∃ e ∈ aL, e.1 = k) → k ≠ 51 → k ≠ 57 → F' (A k) = F (A k)) → rA own mm A h F' v' DM len rl K → wrW A h F DM (DM m) i ip g1 g2 F' → Q (mH h F' mm v')) : w_M_writeRows mm x1 (mH h F mm v) Q := by
  have hB := hA.B
  obtain ⟨m', ip', ofn, ov, ot, om, ⟨d1, d2, d3, d4, d5, d6⟩, ⟨e2, e3, -⟩, -, -, f3⟩ := hA.io hi
  have em : m' = m := by
    have : (F (A 31) i).toInt = m' := d1
    omega
  subst em
  have eip : ip' = ip := by
    have : (F (A 32) i).toInt = ip' := d2
    omega
  subst eip
  have hX := hA.X e2
  have hV := hA.V e2
  obtain ⟨q1, q2, q3, q4, q5⟩ := hA.2.2.1
  have n30 := (hA.n (k := 30) (b := 24) (by decide)).2
  have n58 := (hA.n (k := 58) (b := 4096) (by decide)).2
  have n46 := (hA.n (k := 46) (b := 24) (by decide)).2
  have n47 := (hA.n (k := 47) (b := 16384) (by decide)).2
  have n52 := (hA.n (k := 52) (b := 24) (by decide)).2
  have n53 := (hA.n (k := 53) (b := 16) (by decide)).2
  have n43 := (hA.n (k := 43) (b := 8192) (by decide)).2
  obtain ⟨a31, a31', a31n, a31m⟩ := hB.kx (k := 31) (kd := 102) (n := 24) (by decide) (by decide)
  obtain ⟨a48, a48', a48n, a48m⟩ := hB.kx (k := 48) (kd := 102) (n := 24) (by decide) (by decide)
  obtain ⟨a51, a51', a51n, a51m⟩ := hB.kx (k := 51) (kd := 102) (n := 16384) (by decide) (by decide)
  obtain ⟨a3, a3', a3n, a3m⟩ := hB.kx (k := 3) (kd := 100) (n := 16384) (by decide) (by decide)
  have hE := hX.2.2.2.2.1
  obtain ⟨wf, wt, we, wm, -⟩ := hA.w4
  have hres : ∀ j, j < qt (DM m') 2 → (ub (qc (DM m')) (kpo (DM m') j)).toInt = 3 → ∃ g : Nat, (F (A 33) (ip' + j)).toInt = g ∧ g < 4096 := fun j hj h9 => by
    obtain ⟨-, -, -, o3⟩ := f3 j hj
    obtain ⟨g, y1, y2, -⟩ := o3 h9
    exact ⟨g, y1, by omega⟩
  have ev : ∀ (u : Nat → Int32), vg v u → ∀ k, k ∉ [14, 15, 16, 17, 18] → vN u k = vN v k := fun u gu k hk => by
    have qn : ∀ j, j ∈ [14, 15, 16, 17, 18] → k ≠ j := fun j hj e => hk (e ▸ hj)
    unfold vN
    rw [gu k (qn 14 (by decide)) (qn 15 (by decide)) (qn 16 (by decide)) (qn 17 (by decide)) (qn 18 (by decide))]
  have fOv : ∀ (u : Nat → Int32) (f : Nat), vg v u → fnO u f → fnO v f := fun u f gu hf => by
    unfold fnO at *
    rw [ev u gu 43 (by decide)] at hf
    exact hf
  -- the state: elements w, memory z
  obtain ⟨G, hG⟩ : ∃ G : (Nat → Int32) → (Nat → Int32) → Nat → Nat → Int32, G = fun w z => va_up (va_up F (A 51) w) (A 57) z := ⟨_, rfl⟩
  obtain ⟨okw, hokw⟩ : ∃ okw : (Nat → Int32) → Prop, okw = fun w => ∀ j, j < 16384 → w j = 0 ∨ ∃ f : Nat, (w j).toInt = ((f + 1 : Nat) : Int) ∧ fnO v f := ⟨_, rfl⟩
  have Go : ∀ w z k, (∃ e ∈ aL, e.1 = k) → k ≠ 51 → k ≠ 57 → G w z (A k) = F (A k) := fun w z k hk h9 h8 => by
    rw [hG]
    dsimp only
    rw [xh_up, if_neg (hB.ne hk (by decide) h8), xh_up, if_neg (hB.ne hk (by decide) h9)]
  have GA : ∀ (w z u : Nat → Int32), okw w → vg v u → u 17 = 0 → rA own mm A h (G w z) u DM len rl K := fun w z u hw gu zu => by
    rw [hG]
    rw [hokw] at hw
    exact ((hA.el hw).aw (by decide) (by decide) (by decide) (by decide)).vg gu zu
  have GX : ∀ w z, mX own mm A h (G w z) m' (DM m') := fun w z => hX.upk (fun k hk => Go w z k ((by decide : ∀ k, k ∈ [3, 6, 7, 8, 9, 10, 11] → ∃ e ∈ aL, e.1 = k) k hk) ((by decide : ∀ k, k ∈ [3, 6, 7, 8, 9, 10, 11] → k ≠ 51) k hk) ((by decide : ∀ k, k ∈ [3, 6, 7, 8, 9, 10, 11] → k ≠ 57) k hk))
  have Gf : ∀ w z, f0 own h F h (G w z) := fun w z => by
    rw [hG]
    exact (f0.aw (by rw [hB.o (by decide)]; omega)).tr (f0.aw (by rw [hB.o (by decide)]; omega))
  have Gm : ∀ w z, (G w z (A 31) i).toInt = m' := fun w z => by rw [Go w z 31 (by decide) (by decide) (by decide)]; exact d1
  have Gp : ∀ w z, (G w z (A 32) i).toInt = ip' := fun w z => by rw [Go w z 32 (by decide) (by decide) (by decide)]; exact d2
  have Gr' : ∀ w z, ∀ j, j < qt (DM m') 2 → (ub (qc (DM m')) (kpo (DM m') j)).toInt = 3 → ∃ g : Nat, (G w z (A 33) (ip' + j)).toInt = g ∧ g < 4096 := fun w z => by rw [Go w z 33 (by decide) (by decide) (by decide)]; exact hres
  have Gc : ∀ w z p, cnV A h (G w z) (DM m') ip' p = cnV A h F (DM m') ip' p := fun w z p => cnV.cg (Go w z 33 (by decide) (by decide) (by decide))
  have Gv : ∀ w z κ, oV A (G w z) DM i κ = oV A F DM i κ := fun w z κ => oV.cg (Go w z 31 (by decide) (by decide) (by decide)) (Go w z 32 (by decide) (by decide) (by decide)) (Go w z 33 (by decide) (by decide) (by decide)) (Go w z 37 (by decide) (by decide) (by decide)) (Go w z 38 (by decide) (by decide) (by decide))
  have b9 := (hX.2.2.2.2.2.1 9 (by decide)).1
  have b11 := (hX.2.2.2.2.2.1 11 (by decide)).1
  obtain ⟨l9, hl9⟩ : ∃ l9 : Nat → Nat, l9 = fun k => cV (qc (DM m')) (rwE (DM m') 9 k) := ⟨_, rfl⟩
  obtain ⟨A1, hA1⟩ : ∃ A1 : Nat → Nat → Nat, A1 = fun k j => (F (A 48) g1).toInt.toNat + wrO A h F (DM m') ip' 9 k + j := ⟨_, rfl⟩
  obtain ⟨X1, hX1⟩ : ∃ X1 : Nat → Nat → Int, X1 = fun k j => ((mnV A F DM i 0 (cV (qc (DM m')) ((cks (qc (DM m')) j (cE (qc (DM m')) (rwE (DM m') 9 k))).getD 0)) + 1 : Nat) : Int) := ⟨_, rfl⟩
  obtain ⟨f51, hf51⟩ : ∃ f51 : Nat → Int, f51 = fun e => (F (A 51) e).toInt := ⟨_, rfl⟩
  obtain ⟨l11, hl11⟩ : ∃ l11 : Nat → Nat, l11 = fun k => cV (qc (DM m')) (rwE (DM m') 11 k) := ⟨_, rfl⟩
  obtain ⟨A2, hA2⟩ : ∃ A2 : Nat → Nat → Nat, A2 = fun k j => mpA (fun c => F (A 56) (16 * g2 + c)) (wrO A h F (DM m') ip' 11 k + j) := ⟨_, rfl⟩
  obtain ⟨X2, hX2⟩ : ∃ X2 : Nat → Nat → Int, X2 = fun k j => (qc (DM m') (cE (qc (DM m')) (rwE (DM m') 11 k) + j)).toInt % 256 := ⟨_, rfl⟩
  obtain ⟨f57, hf57⟩ : ∃ f57 : Nat → Int, f57 = fun b => (F (A 57) b).toInt % 256 := ⟨_, rfl⟩
  have Gw : ∀ w z, (∀ e, (w e).toInt = wrr l9 A1 X1 f51 (qt (DM m') 9) e) → (∀ b, (z b).toInt % 256 = wrr l11 A2 X2 f57 (qt (DM m') 11) b) → wrW A h F DM (DM m') i ip' g1 g2 (G w z) := fun w z h51 h57 => by
    have n57 : A 51 ≠ A 57 := hB.ne (by decide) (by decide) (by decide)
    have q1 : G w z (A 51) = w := by rw [hG]; dsimp only; rw [xh_up, if_neg n57, xh_up, if_pos rfl]
    have q2 : G w z (A 57) = z := by rw [hG]; dsimp only; rw [xh_up, if_pos rfl]
    unfold wrW
    rw [q1, q2, ← hl9, ← hA1, ← hX1, ← hf51, ← hl11, ← hA2, ← hX2, ← hf57]
    exact ⟨h51, h57⟩
  -- memory
  have L149 : ∀ v5 : Int32, v5.toInt = m' → ∀ w, okw w → (∀ e, (w e).toInt = wrr l9 A1 X1 f51 (qt (DM m') 9) e) → ∀ (nf k : Nat) (x3 : Int32) (z u : Nat → Int32), qt (DM m') 11 - k ≤ nf → x3.toInt = k → k ≤ qt (DM m') 11 → vg v u → u 17 = 0 → (∀ b, (z b).toInt % 256 = wrr l11 A2 X2 f57 k b) → w_M_writeRows_L149 Q (nf + 1) mm x1 v5 x3 (mH h (G w z) mm u) := by
    intro v5 e5 w hw hw9 nf
    induction nf with
    | zero =>
      intro k x3 z u hn h3 hk gu zu hz
      unfold w_M_writeRows_L149
      refine ⟨hB.2.1, m_manyOf (GX w z) e5 (s := 11) rfl (by decide) (fun r hr _ => ⟨fun hle => hQ _ u (Gf w z) gu zu (fun k hk h9 h8 => Go w z k hk h9 h8) (GA w z u hw gu zu) (Gw w z hw9 (by rw [z_le, hr, h3] at hle; rw [show qt (DM m') 11 = k by omega]; exact hz)), fun hle => ?_⟩)⟩
      rw [z_le, hr, h3] at hle
      omega
    | succ nf ih =>
      intro k x3 z u hn h3 hk gu zu hz
      unfold w_M_writeRows_L149
      refine ⟨hB.2.1, m_manyOf (GX w z) e5 (s := 11) rfl (by decide) (fun r hr _ => ⟨fun hle => hQ _ u (Gf w z) gu zu (fun k hk h9 h8 => Go w z k hk h9 h8) (GA w z u hw gu zu) (Gw w z hw9 (by rw [z_le, hr, h3] at hle; rw [show qt (DM m') 11 = k by omega]; exact hz)), fun hle => ?_⟩)⟩
      rw [z_le, hr, h3] at hle
      have hks : k < qt (DM m') 11 := by omega
      have nx1 : qt (DM m') 11 - (k + 1) ≤ nf := z_mE hn (Nat.lt_succ_self k)
      have nx2 : (x3 + 1).toInt = (k + 1 : Nat) := z_inc h3 (by omega)
      obtain ⟨p1, x, E, p3, L, y1, y2, y3, hrow, -, y11, y8⟩ := hX.2.2.row (.inr rfl) hks ⟨fun e => by omega, fun _ => hV.2.2.2.2.2.2 k hks⟩
      obtain ⟨y4, y5, y6, y7⟩ := id hrow
      have y11 := y11 rfl
      have y8' : 0 < iM (DM m') 2 + qt (DM m') (3 + 2) := y8
      obtain ⟨g5, g6⟩ := f2 y8'
      have hfit := r2 k hks E p3 L hrow
      have rb1 := rC_b y1
      have rbL := rC_b y6
      have ep1 : p1 ≤ qe (DM m') := by
        rw [y2] at y4
        obtain ⟨q, q1, q2, q3⟩ := y4
        rcases q3 with ⟨-, z, c1, -⟩ | ⟨op, o1, o2, o3, o4⟩
        · have := rC_b c1; omega
        · have := rW_b o4; omega
      refine m_only (κ := 2) (GA w z u hw gu zu) h1 (by rw [ev u gu 30 (by decide)]; exact hi) rfl (.inr rfl) (fun v1 r6 g1' z1 hr6 _ => ?_)
      have G1 := gu.tr g1'
      rcases hr6 with ⟨-, e0⟩ | ⟨g, t1, -, t2, t3, -⟩
      · have := e0 m' (Gm w z)
        omega
      · rw [Gv] at t3
        have eg : g = g2 := by rw [t3] at t1; omega
        subst eg
        have hg52 := t2 rfl
        rw [ev u gu 52 (by decide)] at hg52
        obtain ⟨pc, pc1, pc2⟩ := wm g hg52
        have pc1' : (F (A 54) g).toInt = pc := pc1
        refine m_placeOf (GX w z) e5 (s := 11) rfl (by decide) h3 hks (fun r8 e8 _ => m_go_k (GX w z) z1 e5 e8 y3 (by omega) (fun v2 k2 _ => m_count_k (GX w z).rd k2.2.2.1 k2.2.2.2 y1 ep1 (fun v3 o3 z3 _ => m_constant (p := cE (qc (DM m')) (qp (DM m') 11 k)) (ip := ip') (v0 := v1) (GX w z) (by omega) h1 (Gm w z) (Gp w z) ⟨q1, q3⟩ (by omega) (Gr' w z) y4 y5 (by rw [y2]; exact k2.go o3 z3) (fun v4 k4 _ v15 e15 => m_count_k (GX w z).rd k4.2.2.1 k4.2.2.2 y6 y7 (fun v6 o6 z6 _ => ?_)))))
        rw [Gc] at e15
        have G6 := (G1.tr k4.1).tr o6.vg
        have lo := Z_lw (x := cnV A h F (DM m') ip' (cE (qc (DM m')) (qp (DM m') 11 k)))
        rw [← e15] at lo hfit
        obtain ⟨off, hoff⟩ : ∃ off : Nat, v15.toInt = off := ⟨_, (Int.toNat_of_nonneg lo.1).symm⟩
        obtain ⟨LL, hLL⟩ : ∃ LL : Nat, L.toInt = LL := ⟨_, rbL.2.2.2⟩
        have eLn : l11 k = LL := by rw [hl11]; dsimp only; rw [hrow.f.2]; omega
        have eOf : wrO A h F (DM m') ip' 11 k = off := by unfold wrO; rw [← e15, hoff]; omega
        have p3b : qb (DM m') ≤ p3 := by
          have := (o6.P k4.2.2.1).2.2.1
          omega
        have hbd : off + LL ≤ 65536 * pc := by
          rw [pc1'] at g6
          omega
        have inner : ∀ (jf j : Nat) (x9 : Int64) (z' : Nat → Int32), LL - j ≤ jf → x9.toInt = j → j ≤ LL → (∀ b, (z' b).toInt % 256 = wrs (A2 k) (X2 k) (wrr l11 A2 X2 f57 k) j b) → w_M_writeRows_L206 (w_M_writeRows_L149 Q (nf + 1)) Q (jf + 1) mm x1 v5 x3 r6 v15 L x9 (mH h (G w z') mm v6) := by
          intro jf
          induction jf with
          | zero =>
            intro j x9 z' hjn h9 hj hz'
            unfold w_M_writeRows_L206
            refine ⟨fun hle9 => ih (k + 1) (x3 + 1) z' v6 nx1 nx2 hks G6 z6 (fun b => by rw [Z_le, hLL, h9] at hle9; show _ = wrs (A2 k) (X2 k) (wrr l11 A2 X2 f57 k) (l11 k) b; rw [eLn, show LL = j by omega]; exact hz' b), fun hle9 => ?_⟩
            rw [Z_le, hLL, h9] at hle9
            omega
          | succ jf ihj =>
            intro j x9 z' hjn h9 hj hz'
            unfold w_M_writeRows_L206
            refine ⟨fun hle9 => ih (k + 1) (x3 + 1) z' v6 nx1 nx2 hks G6 z6 (fun b => by rw [Z_le, hLL, h9] at hle9; show _ = wrs (A2 k) (X2 k) (wrr l11 A2 X2 f57 k) (l11 k) b; rw [eLn, show LL = j by omega]; exact hz' b), fun hle9 => ?_⟩
            rw [Z_le, hLL, h9] at hle9
            have e9 : (Int64.toInt32 x9).toInt = j := by
              rw [z_of64, h9]
              omega
            have e15' : (v6 15 + Int64.toInt32 x9).toInt = (p3 + j : Nat) := z_ad2 o6.2.1 e9 (by omega) (by omega)
            rw [mH_i]
            refine ⟨hB.2.1, A 3, a3, a3', ?_, m_storeByteE (g := g) (pc := pc) (w := off + j) (GA w z' v6 hw G6 z6) t1 (by rw [ev v6 G6 52 (by decide)]; exact hg52) (by rw [Go w z' 54 (by decide) (by decide) (by decide)]; exact pc1) ?_ (by omega) (fun y hy _ v8 e8 => ?_)⟩
            · rw [z_in, e15']
              show _ ∧ _ < ((xb_n h (A 3) : Nat) : Int)
              omega
            · rw [Z_add, hoff, h9]
              omega
            · subst e8
              rw [mH_o a3m, z_cl, e15', Int.toNat_natCast, Go w z' 3 (by decide) (by decide) (by decide), hX.rd.2.2.2.2.2.2.2 (p3 + j) (by omega) (by omega)] at hy
              have q2 : G w z' (A 57) = z' := by rw [hG]; dsimp only; rw [xh_up, if_pos rfl]
              rw [Go w z' 56 (by decide) (by decide) (by decide), q2]
              obtain ⟨w9, hw9'⟩ : ∃ w9, w9 = va_up z' (mpA (fun c => F (A 56) (16 * g + c)) (off + j)) y := ⟨_, rfl⟩
              rw [← hw9']
              have eG : va_up (G w z') (A 57) w9 = G w w9 := by
                rw [hG]
                funext a
                simp only [xh_up]
                split <;> rfl
              rw [eG]
              refine ihj (j + 1) (x9 + 1) w9 (by omega) ?_ (by omega) (fun b => ?_)
              · rw [Z_add, h9, show (1 : Int64).toInt = 1 from rfl]
                omega
              · have eA : A2 k j = mpA (fun c => F (A 56) (16 * g + c)) (off + j) := by rw [hA2]; dsimp only; rw [eOf]
                have eX : X2 k j = (qc (DM m') (p3 + j)).toInt % 256 := by rw [hX2]; dsimp only; rw [hrow.f.1]
                show _ = va_up (wrs (A2 k) (X2 k) (wrr l11 A2 X2 f57 k) j) (A2 k j) (X2 k j) b
                rw [hw9', xh_up, xh_up, eA, eX]
                split
                · exact hy
                · exact hz' b
        exact ⟨LL + 1, inner LL 0 0 z (by omega) rfl (by omega) (fun b => hz b)⟩
  -- elements
  have L9 : ∀ v5 : Int32, v5.toInt = m' → ∀ (nf k : Nat) (x3 : Int32) (w u : Nat → Int32), qt (DM m') 9 - k ≤ nf → x3.toInt = k → k ≤ qt (DM m') 9 → okw w → vg v u → u 17 = 0 → (∀ e, (w e).toInt = wrr l9 A1 X1 f51 k e) → w_M_writeRows_L9 Q (nf + 1) mm x1 v5 x3 (mH h (G w (F (A 57))) mm u) := by
    intro v5 e5 nf
    induction nf with
    | zero =>
      intro k x3 w u hn h3 hk hw gu zu he
      unfold w_M_writeRows_L9
      refine ⟨hB.2.1, m_manyOf (GX w _) e5 (s := 9) rfl (by decide) (fun r hr _ => ⟨fun hle => ⟨qt (DM m') 11 + 1, L149 v5 e5 w hw (by rw [z_le, hr, h3] at hle; rw [show qt (DM m') 9 = k by omega]; exact he) (qt (DM m') 11) 0 0 _ u (by omega) rfl (by omega) gu zu (fun b => by rw [hf57]; rfl)⟩, fun hle => ?_⟩)⟩
      rw [z_le, hr, h3] at hle
      omega
    | succ nf ih =>
      intro k x3 w u hn h3 hk hw gu zu he
      unfold w_M_writeRows_L9
      refine ⟨hB.2.1, m_manyOf (GX w _) e5 (s := 9) rfl (by decide) (fun r hr _ => ⟨fun hle => ⟨qt (DM m') 11 + 1, L149 v5 e5 w hw (by rw [z_le, hr, h3] at hle; rw [show qt (DM m') 9 = k by omega]; exact he) (qt (DM m') 11) 0 0 _ u (by omega) rfl (by omega) gu zu (fun b => by rw [hf57]; rfl)⟩, fun hle => ?_⟩)⟩
      rw [z_le, hr, h3] at hle
      have hks : k < qt (DM m') 9 := by omega
      have nx1 : qt (DM m') 9 - (k + 1) ≤ nf := z_mE hn (Nat.lt_succ_self k)
      have nx2 : (x3 + 1).toInt = (k + 1 : Nat) := z_inc h3 (by omega)
      obtain ⟨p1, x, E, p3, L, y1, y2, y3, hrow, y10, -, y8⟩ := hX.2.2.row (.inl rfl) hks ⟨fun _ => hV.2.2.2.2.2.1 k hks, fun e => by omega⟩
      obtain ⟨y4, y5, y6, y7⟩ := id hrow
      obtain ⟨cE1, qq, cE2, cE3⟩ := y10 rfl
      have y8' : 0 < iM (DM m') 1 + qt (DM m') (3 + 1) := y8
      obtain ⟨g5, g6⟩ := f1 y8'
      have hfit := r1 k hks E p3 L hrow
      have rb1 := rC_b y1
      have rbL := rC_b y6
      have ep1 : p1 ≤ qe (DM m') := by
        rw [y2] at y4
        obtain ⟨q, q1, q2, q3⟩ := y4
        rcases q3 with ⟨-, z, c1, -⟩ | ⟨op, o1, o2, o3, o4⟩
        · have := rC_b c1; omega
        · have := rW_b o4; omega
      refine m_only (κ := 1) (GA w _ u hw gu zu) h1 (by rw [ev u gu 30 (by decide)]; exact hi) rfl (.inl rfl) (fun v1 r6 g1' z1 hr6 _ => ?_)
      have G1 := gu.tr g1'
      rcases hr6 with ⟨-, e0⟩ | ⟨g, t1, t2, -, t3, -⟩
      · have := e0 m' (Gm w _)
        omega
      · rw [Gv] at t3
        have eg : g = g1 := by rw [t3] at t1; omega
        subst eg
        have hg46 := t2 rfl
        rw [ev u gu 46 (by decide)] at hg46
        obtain ⟨tf, tz, tf1, tz1, tz2⟩ := wt g hg46
        have tz1' : (F (A 49) g).toInt = tz := tz1
        refine m_placeOf (GX w _) e5 (s := 9) rfl (by decide) h3 hks (fun r8 e8 _ => m_go_k (GX w _) z1 e5 e8 y3 (by omega) (fun v2 k2 _ => m_count_k (GX w _).rd k2.2.2.1 k2.2.2.2 y1 ep1 (fun v3 o3 z3 _ => m_constant (p := cE (qc (DM m')) (qp (DM m') 9 k)) (ip := ip') (v0 := v1) (GX w _) (by omega) h1 (Gm w _) (Gp w _) ⟨q1, q3⟩ (by omega) (Gr' w _) y4 y5 (by rw [y2]; exact k2.go o3 z3) (fun v4 k4 _ v15 e15 => m_count_k (GX w _).rd k4.2.2.1 k4.2.2.2 y6 y7 (fun v6 o6 z6 _ => ?_)))))
        rw [Gc] at e15
        have G6 := (G1.tr k4.1).tr o6.vg
        have P6 := o6.P k4.2.2.1
        have lo := Z_lw (x := cnV A h F (DM m') ip' (cE (qc (DM m')) (qp (DM m') 9 k)))
        rw [← e15] at lo hfit
        obtain ⟨off, hoff⟩ : ∃ off : Nat, v15.toInt = off := ⟨_, (Int.toNat_of_nonneg lo.1).symm⟩
        obtain ⟨LL, hLL⟩ : ∃ LL : Nat, L.toInt = LL := ⟨_, rbL.2.2.2⟩
        have hbd : off + LL ≤ tz := by omega
        have eLL : L.toInt.toNat = LL := by omega
        have eLn : l9 k = LL := by rw [hl9]; dsimp only; rw [hrow.f.2]; exact eLL
        have eOf : wrO A h F (DM m') ip' 9 k = off := by unfold wrO; rw [← e15, hoff]; omega
        rw [eLL] at cE1 cE2
        have inner : ∀ (jf j : Nat) (x9 : Int64) (w' u' : Nat → Int32) (pj : Nat), LL - j ≤ jf → x9.toInt = j → j ≤ LL → okw w' → vg v u' → u' 17 = 0 → cks (qc (DM m')) j p3 = some pj → (u' 15).toInt = pj → (∀ e, (w' e).toInt = wrs (A1 k) (X1 k) (wrr l9 A1 X1 f51 k) j e) → w_M_writeRows_L66 (w_M_writeRows_L9 Q (nf + 1)) Q (jf + 1) mm x1 v5 x3 r6 v15 L x9 (mH h (G w' (F (A 57))) mm u') := by
          intro jf
          induction jf with
          | zero =>
            intro j x9 w' u' pj hjn h9 hj hw' gu' zu' hcj hu15 he'
            unfold w_M_writeRows_L66
            refine ⟨fun hle9 => ih (k + 1) (x3 + 1) w' u' nx1 nx2 hks hw' gu' zu' (fun e => by rw [Z_le, hLL, h9] at hle9; show _ = wrs (A1 k) (X1 k) (wrr l9 A1 X1 f51 k) (l9 k) e; rw [eLn, show LL = j by omega]; exact he' e), fun hle9 => ?_⟩
            rw [Z_le, hLL, h9] at hle9
            omega
          | succ jf ihj =>
            intro j x9 w' u' pj hjn h9 hj hw' gu' zu' hcj hu15 he'
            unfold w_M_writeRows_L66
            refine ⟨fun hle9 => ih (k + 1) (x3 + 1) w' u' nx1 nx2 hks hw' gu' zu' (fun e => by rw [Z_le, hLL, h9] at hle9; show _ = wrs (A1 k) (X1 k) (wrr l9 A1 X1 f51 k) (l9 k) e; rw [eLn, show LL = j by omega]; exact he' e), fun hle9 => ?_⟩
            rw [Z_le, hLL, h9] at hle9
            obtain ⟨pj', qj, xj, c1, c2, c3⟩ := cE1 j (by omega)
            have epj : pj' = pj := by
              rw [hcj] at c1
              simp only [Option.some.injEq] at c1
              exact c1.symm
            subst epj
            have rbj := rC_b c2
            have hnx : cks (qc (DM m')) (j + 1) p3 = some qj := cks_nx c1 c2
            obtain ⟨qj', z1', z2'⟩ := cks_pre cE2 (show j + 1 ≤ LL by omega)
            have eqj : qj' = qj := by
              rw [hnx] at z1'
              simp only [Option.some.injEq] at z1'
              exact z1'.symm
            subst eqj
            have bq := cks_b z2'
            have bp := cks_b hcj
            have p3b : qb (DM m') ≤ p3 := by
              have := P6.2.2.1
              omega
            rw [mH_i]
            refine ⟨hB.2.1, m_go_k (GX w' _) zu' e5 hu15 (by omega) (by omega) (fun v7 k7 _ => m_count_k (GX w' _).rd k7.2.2.1 k7.2.2.2 c2 (by omega) (fun v8 o8 z8 _ v9 e9 v10 e10 => ⟨A 51, a51, A 48, a48, a48', ?_, ?_⟩))⟩
            · rw [z_in, t1]
              show _ ∧ _ < ((xb_n h (A 48) : Nat) : Int)
              omega
            · have G8 := (gu'.tr k7.1).tr o8.vg
              have bi := hX.2.2.ib (κ := 0)
              have b3 := (hX.2.2.2.2.2.1 3 (by decide)).1
              have e9' : v9.toInt = (xj.toInt.toNat : Nat) := by
                rw [e9, z_of64]
                omega
              rw [mH_i] at e10
              refine m_meantE (κ := 0) (k := xj.toInt.toNat) (GA w' _ v8 hw' G8 z8) h1 (by rw [ev v8 G8 30 (by decide)]; exact hi) rfl (by decide) e9' (Gm w' _) (by have : qt (DM m') (3 + 0) = qt (DM m') 3 := rfl; omega) (fun v11 r14 gf g11 z11 e14 egf ff _ _ _ _ => ⟨a51', ?_, fun h17 e17 => ?_⟩)
              · rw [mH_o a48m, z_cl, t1, Int.toNat_natCast, Go w' _ 48 (by decide) (by decide) (by decide), z_in]
                have e59 : (Int64.toInt32 (v15 + x9)).toInt = (off + j : Nat) := by
                  have e58 : (v15 + x9).toInt = (off + j : Nat) := by
                    rw [Z_add, hoff, h9]
                    omega
                  rw [z_of64, e58]
                  omega
                rw [z_ad2 tf1 e59 (by omega) (by omega)]
                show _ ∧ _ < ((xb_n h (A 51) : Nat) : Int)
                omega
              · have G11 := G8.tr g11
                have n57 : A 51 ≠ A 57 := hB.ne (by decide) (by decide) (by decide)
                obtain ⟨idx, hidx⟩ : ∃ idx, idx = (xb_i (mH h (G w' (F (A 57))) mm v8) (A 48) r6.toNatClampNeg + Int64.toInt32 (v15 + x9)).toNatClampNeg := ⟨_, rfl⟩
                rw [← hidx, mH_A a51m] at e17
                subst e17
                have eG : va_up (G w' (F (A 57))) (A 51) (va_up (G w' (F (A 57)) (A 51)) idx (1 + r14)) = G (va_up w' idx (1 + r14)) (F (A 57)) := by
                  rw [hG]
                  funext a
                  simp only [xh_up]
                  by_cases h8 : a = A 57
                  · subst h8
                    simp only [if_true, if_neg (Ne.symm n57)]
                  · simp only [if_neg h8, if_neg n57]
                    by_cases h7 : a = A 51
                    · subst h7
                      simp only [if_true]
                    · simp only [if_neg h7]
                rw [eG]
                have eidx : idx = A1 k j := by
                  have e59 : (Int64.toInt32 (v15 + x9)).toInt = (off + j : Nat) := by
                    have e58 : (v15 + x9).toInt = (off + j : Nat) := by
                      rw [Z_add, hoff, h9]
                      omega
                    rw [z_of64, e58]
                    omega
                  have tf1' : (F (A 48) g).toInt = tf := tf1
                  rw [hidx, mH_o a48m, z_cl r6, t1, Int.toNat_natCast, Go w' _ 48 (by decide) (by decide) (by decide), z_cl, z_ad2 tf1 e59 (by omega) (by omega), Int.toNat_natCast, hA1]
                  dsimp only
                  rw [tf1', eOf]
                  omega
                have eX : X1 k j = ((gf + 1 : Nat) : Int) := by
                  rw [hX1]
                  dsimp only
                  rw [hrow.f.1, hcj, egf]
                  show ((mnV A F DM i 0 (cV (qc (DM m')) pj') + 1 : Nat) : Int) = _
                  rw [(rC_E c2).2, mnV.cg (F' := G w' (F (A 57))) (Go w' _ 31 (by decide) (by decide) (by decide)) (Go w' _ 32 (by decide) (by decide) (by decide)) (Go w' _ 33 (by decide) (by decide) (by decide)) (Go w' _ 35 (by decide) (by decide) (by decide)) (Go w' _ 36 (by decide) (by decide) (by decide)) (Go w' _ 37 (by decide) (by decide) (by decide)) (Go w' _ 38 (by decide) (by decide) (by decide))]
                have hgf := (ff rfl).1
                have hgf' : fnO v gf := fOv v8 gf G8 hgf
                have hgb : gf < 100004 := by
                  rcases hgf' with h8 | h8
                  · omega
                  · omega
                have hw2 : okw (va_up w' idx (1 + r14)) := by
                  rw [hokw] at hw' ⊢
                  intro jj hjj
                  rw [xh_up]
                  split
                  · refine .inr ⟨gf, ?_, hgf'⟩
                    rw [z_add, e14]
                    simp only [Int32.reduceToInt]
                    omega
                  · exact hw' jj hjj
                refine m_go_k (GX _ _) z11 e5 (p := qj') (by rw [e10]; exact o8.2.1) (by omega) (by omega) (fun v12 k12 _ v20 e20 => ?_)
                subst e20
                refine ihj (j + 1) (x9 + 1) _ v12 qj' (by omega) ?_ (by omega) hw2 (G11.tr k12.1) k12.2.2.2 hnx k12.2.2.1.1 (fun e => ?_)
                · rw [Z_add, h9, show (1 : Int64).toInt = 1 from rfl]
                  omega
                · show _ = va_up (wrs (A1 k) (X1 k) (wrr l9 A1 X1 f51 k) j) (A1 k j) (X1 k j) e
                  rw [xh_up, xh_up, eidx]
                  split
                  · rw [eX, z_add, e14]
                    simp only [Int32.reduceToInt]
                    omega
                  · exact he' e
        exact ⟨LL + 1, inner LL 0 0 w v6 p3 (by omega) rfl (by omega) hw G6 z6 rfl o6.2.1 (fun e => he e)⟩
  unfold w_M_writeRows
  refine ⟨hB.2.1, A 31, a31, a31', ?_, fun v5 e5 => ⟨qt (DM m') 9 + 1, ?_⟩⟩
  · rw [z_in, h1]
    show _ ∧ _ < ((xb_n h (A 31) : Nat) : Int)
    omega
  · rw [mH_o a31m, z_cl, h1, Int.toNat_natCast] at e5
    have := L9 v5 (by rw [e5]; exact d1) (qt (DM m') 9) 0 0 (F (A 51)) v (by omega) rfl (by omega) (by rw [hokw]; exact we) vg.rf hA.z (fun e => by rw [hf51]; rfl)
    rw [hG] at this
    simp only [va_id] at this
    exact this
end MN6

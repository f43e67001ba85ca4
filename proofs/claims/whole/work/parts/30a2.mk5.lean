-- the reference's checker in a body: instructions, part 1
def tyl (x : Int) : Prop := x = 64 ∨ (124 ≤ x ∧ x ≤ 127)
/-- where the check of a body stands, at an instruction -/
def bE (own : Nat → Nat) (mm : Nat) (A : Nat → Nat) (h : xb_H) (F : Nat → Nat → Int32) (v : Nat → Int32) (m : Nat) (D : zM) (t lcn : Nat) (lo : Nat → Int32) (cur ex : List Int) (f : ckF) (r : List ckF) (g : Int) : Prop :=
  (mX own mm A h F m D ∧ (∀ f, f < iM D 0 + qt D 3 → fty D f < qt D 1) ∧ (∀ t, t < qt D 1 → tRn D t ≤ 1) ∧ t < qt D 1) ∧
  (zS A F v cur (f :: r) g ∧ cur = ex ++ fb f ∧ cur.length ≤ 30000 ∧ g ≤ 30000 ∧ (f :: r).length ≤ 201 ∧ (∀ y ∈ cur, ck_t y) ∧ (∀ y ∈ f :: r, tyl (fl_ y) ∧ tyl (fe y))) ∧
  ((v 20).toInt = (tPn D t + lcn : Nat) ∧ lcn ≤ 1000 ∧ (∀ i, i < tPn D t + lcn → (F (A 19) i).toInt = ck_lt (qc D) lo (tPa D t) (tPn D t) i ∧ 124 ≤ (F (A 19) i).toInt ∧ (F (A 19) i).toInt ≤ 127) ∧ (F (A 25) 0).toInt = tRt D t)
def bQ (A : Nat → Nat) (h : xb_H) (F : Nat → Nat → Int32) (mm : Nat) (v : Nat → Int32) (D : zM) (lo : Nat → Int32) (t lcn : Nat) (lv : Bool) (q op : Nat) (cur : List Int) (f : ckF) (r : List ckF) (ν : Nat → Int32) (g : Int) (Qr : xb_H → Prop) : Prop :=
  ∀ (v' : Nat → Int32) (F' : Nat → Nat → Int32) (cur' : List Int) (fs' : List ckF) (ν' : Nat → Int32) (g' : Int), bv v v' → bF A F F' → (v' 17 = 0 → zS A F' v' cur' fs' g' ∧ ck_st (gn D) (gv D) (qc D) lo t lcn lv q op cur f r ν g cur' fs' ν' g' ∧ (4 ≤ wk_sh op → ν' q = ν q)) → Qr (mH h F' mm v')
theorem sg_row : ∀ o, o < 192 → 69 ≤ o → ∃ i, i < 30 ∧ ((∀ j, j < i → SG (4 * j) < ((o : Nat) : Int)) ∧ ((o : Nat) : Int) ≤ SG (4 * i) ∧ SG (4 * i + 1) = sgN o ∧ SG (4 * i + 2) = sgA o ∧ SG (4 * i + 3) = sgR o) := by decide +kernel
theorem sg_rng : ∀ o, o < 192 → 69 ≤ o → (124 ≤ sgA o ∧ sgA o ≤ 127 ∧ 124 ≤ sgR o ∧ sgR o ≤ 127) := by decide +kernel
theorem MT_tb : ∀ k, k < 23 → MT k = if k = 0 ∨ (4 ≤ k ∧ k ≤ 7) ∨ k = 14 ∨ k = 18 ∨ k = 19 then 127 else if k = 2 ∨ k = 16 then 125 else if k = 3 ∨ k = 17 then 124 else 126 := by decide +kernel
section MK5
variable {own : Nat → Nat} {mm m : Nat} {A : Nat → Nat} {h : xb_H} {F F' F2 : Nat → Nat → Int32} {v v' v2 cb lo ν : Nat → Int32} {D : zM} {cur ex : List Int} {fs r : List ckF} {f : ckF} {g : Int} {t lcn q op : Nat} {lv : Bool} {Qr : xb_H → Prop}
theorem bQ.d (hQ : bQ A h F mm v D lo t lcn lv q op cur f r ν g Qr) {v' : Nat → Int32} {F' : Nat → Nat → Int32} (h1 : bv v v') (h2 : bF A F F') (hn : v' 17 ≠ 0) : Qr (mH h F' mm v') := hQ v' F' [] [] ν 0 h1 h2 (fun hz => absurd hz hn)
theorem ck_t.rg {y : Int} (h : ck_t y) : -128 ≤ y ∧ y ≤ 127 := by
  rcases h with h | h <;> omega
theorem bv.t3 (h : ∀ j, j ≠ 17 → j ≠ 18 → j ≠ 22 → v' j = v j) : bv v v' := fun j _ _ _ j4 j5 j6 _ _ => h j j4 j5 j6
theorem bv.p2 (h : ∀ j, j ≠ 22 → j ≠ 23 → v' j = v j) : bv v v' := fun j _ _ _ _ _ j6 j7 _ => h j j6 j7
theorem bv.n2 (h : ∀ j, j ≠ 17 → j ≠ 18 → v' j = v j) : bv v v' := fun j _ _ _ j4 j5 _ _ _ => h j j4 j5
theorem zS.n2 (hS : zS A F v cur fs g) (h1 : ∀ j, j ≠ 17 → j ≠ 18 → v' j = v j) : zS A F v' cur fs g := hS.vj (h1 22 (by decide) (by decide)) (h1 23 (by decide) (by decide)) (h1 29 (by decide) (by decide))
theorem m_ckNum {x : Int32} (hx : x.toInt = op) (h1 : 69 ≤ op) (h2 : op < 192) (hE : bE own mm A h F v m D t lcn lo cur ex f r g) (hQ : bQ A h F mm v D lo t lcn lv q op cur f r ν g Qr) : w_Exact_second x (mH h F mm v) (fun (r23 : Int32) (h22 : xb_H) => xb_ext (mH h F mm v) h22 → ((r23 < (0 : Int32) → w_M_checkInstruction_L24 Qr mm x h22) ∧ (¬ r23 < (0 : Int32) → xb_k h22 mm = 9 ∧ w_M_take mm (127 - r23) h22 (fun (r27 : Int32) (h26 : xb_H) => xb_ext h22 h26 → w_M_checkInstruction_L24 Qr mm x h26)))) := by
  obtain ⟨⟨hX, -, -, -⟩, ⟨hS, hex, hl, hg, hfl, hty, -⟩, -⟩ := id hE
  have hB := hX.1
  obtain ⟨i, i1, i2, i3, i4, i5, i6⟩ := sg_row op h2 h1
  obtain ⟨t1, t2, t3, t4⟩ := sg_rng op h2 h1
  have sub : ∀ (z : Int32), z.toInt = 127 - sgA op → (127 - z).toInt = sgA op := fun z hz => by
    rw [z_sub, hz]
    simp only [Int32.reduceToInt]
    omega
  have L24 : ∀ (v1 : Nat → Int32) (cur1 ex1 : List Int), bv v v1 → zS A F v1 cur1 (f :: r) g → cur1 = ex1 ++ fb f → cur1.length ≤ cur.length → (∀ y ∈ cur1, ck_t y) → (v1 17 = 0 → ∀ rr c, ck_tk f cur1 (sgA op) rr c → ck_tkl f cur (List.replicate (SG (4 * i + 1)).toNat (SG (4 * i + 2))) c) → w_M_checkInstruction_L24 Qr mm x (mH h F mm v1) := by
    intro v1 cur1 ex1 g1 g2 g3 g4 g5 g6
    unfold w_M_checkInstruction_L24 w_M_checkInstruction_L139
    refine sp_efirst hx h1 h2 (fun r2 e2 _ => ⟨hB.2.1, m_take hB g2 g3 (by omega) hfl (by rw [sub r2 e2]; omega) (fun u v2 cur2 ex2 d1 d2 d3 d4 d5 _ d7 _ => sp_eresult hx h1 h2 (fun r7 e7 _ => ?_))⟩)
    have e8 : (127 - r7).toInt = sgR op := by
      rw [z_sub, e7]
      simp only [Int32.reduceToInt]
      omega
    refine m_put hB d2 (by omega) (by omega) (fun v3 w p1 p2 _ => hQ v3 _ _ _ ν _ (g1.tr ((bv.t3 d1).tr (bv.p2 p1))) (bF.up (by decide)) (fun hz => ⟨p2, KS_17 (by omega) ⟨i, cur2, i1, i2, i3, ?_, ?_, rfl, rfl⟩, fun _ => rfl⟩))
    · rw [p1 17 (by decide) (by decide)] at hz
      obtain ⟨z1, z2⟩ := d7 hz
      rw [sub r2 e2] at z2
      exact g6 z1 _ _ z2
    · rw [i6, e8]
      exact .inr ⟨by omega, rfl, rfl⟩
  refine sp_esecond hx h1 h2 (fun r23 e23 _ => ⟨fun hneg => ?_, fun hpos => ⟨hB.2.1, ?_⟩⟩)
  · refine L24 v cur ex bv.rf hS hex (Nat.le_refl _) hty (fun _ rr c hc => ?_)
    rcases e23 with ⟨e1, e2⟩ | ⟨e1, -⟩
    · rw [z_lt, e2] at hneg
      simp only [Int32.reduceToInt] at hneg
      omega
    · rw [i4, i5, e1]
      exact ⟨rr, c, hc, rfl⟩
  · rcases e23 with ⟨e1, e2⟩ | ⟨-, e2⟩
    · refine m_take hB hS hex (by omega) hfl (by rw [sub r23 e2]; omega) (fun u v2 cur2 ex2 d1 d2 d3 d4 d5 _ d7 _ => L24 v2 cur2 ex2 (bv.t3 d1) d2 d3 d5 (fun y hy => hty y (d4 y hy)) (fun hz rr c hc => ?_))
      obtain ⟨z1, z2⟩ := d7 hz
      rw [sub r23 e2] at z2
      rw [i4, i5, e1]
      exact ⟨u.toInt, cur2, z2, rr, c, hc, rfl⟩
    · rw [z_lt, e2] at hpos
      simp only [Int32.reduceToInt] at hpos
      omega
theorem m_accessType {x : Int32} {H : xb_H} {Qr : Int32 → xb_H → Prop} (hx : x.toInt = op) (h1 : 40 ≤ op) (h2 : op ≤ 62) (hQ : ∀ u : Int32, u.toInt = MT (op - 40) → Qr u H) : w_M_accessType x H Qr := by
  have hm := MT_tb (op - 40) (by omega)
  unfold w_M_accessType w_M_accessType_L18 w_M_accessType_L36 w_M_accessType_L53 w_M_accessType_L70 w_M_accessType_L77
  simp only [z_eq, z_lt, z_le, hx, Int32.reduceToInt]
  have c127 : (op = 40 ∨ (44 ≤ op ∧ op ≤ 47) ∨ op = 54 ∨ op = 58 ∨ op = 59) → Qr 127 H := fun hc => hQ 127 (by rw [hm, if_pos (by omega)]; rfl)
  have c125 : (op = 42 ∨ op = 56) → Qr 125 H := fun hc => hQ 125 (by rw [hm, if_neg (by omega), if_pos (by omega)]; rfl)
  have c124 : (op = 43 ∨ op = 57) → Qr 124 H := fun hc => hQ 124 (by rw [hm, if_neg (by omega), if_neg (by omega), if_pos (by omega)]; rfl)
  have c126 : ¬ (op = 40 ∨ (44 ≤ op ∧ op ≤ 47) ∨ op = 54 ∨ op = 58 ∨ op = 59) → ¬ (op = 42 ∨ op = 56) → ¬ (op = 43 ∨ op = 57) → Qr 126 H := fun a b c => hQ 126 (by rw [hm, if_neg (by omega), if_neg (by omega), if_neg (by omega)]; rfl)
  have L18 : ¬ op = 40 → ¬ (44 ≤ op ∧ op ≤ 47) → (((op : Int) = 54 → Qr 127 H) ∧ (¬ (op : Int) = 54 → ((op : Int) = 58 → Qr 127 H) ∧ (¬ (op : Int) = 58 → (¬ (op : Int) = 59 → ((op : Int) = 42 → Qr 125 H) ∧ (¬ (op : Int) = 42 → (¬ (op : Int) = 56 → ((op : Int) = 43 → Qr 124 H) ∧ (¬ (op : Int) = 43 → (¬ (op : Int) = 57 → Qr 126 H) ∧ ((op : Int) = 57 → Qr 124 H))) ∧ ((op : Int) = 56 → Qr 125 H))) ∧ ((op : Int) = 59 → Qr 127 H)))) := fun a b => ⟨fun k => c127 (by omega), fun k1 => ⟨fun k => c127 (by omega), fun k2 => ⟨fun k3 => ⟨fun k => c125 (by omega), fun k4 => ⟨fun k5 => ⟨fun k => c124 (by omega), fun k6 => ⟨fun k7 => c126 (by omega) (by omega) (by omega), fun k => c124 (by omega)⟩⟩, fun k => c125 (by omega)⟩⟩, fun k => c127 (by omega)⟩⟩⟩
  exact ⟨fun k => c127 (by omega), fun k1 => ⟨fun k => L18 (by omega) (by omega), fun k2 => ⟨fun k => c127 (by omega), fun k => L18 (by omega) (by omega)⟩⟩⟩
theorem m_accessBytes {x : Int32} {H : xb_H} {Qr : Int32 → xb_H → Prop} (hQ : ∀ u : Int32, (u = 1 ∨ u = 2 ∨ u = 4 ∨ u = 8) → Qr u H) : w_M_accessBytes x H Qr := by
  have a1 := hQ 1 (.inl rfl)
  have a2 := hQ 2 (.inr (.inl rfl))
  have a4 := hQ 4 (.inr (.inr (.inl rfl)))
  have a8 := hQ 8 (.inr (.inr (.inr rfl)))
  unfold w_M_accessBytes w_M_accessBytes_L108 w_M_accessBytes_L111 w_M_accessBytes_L113 w_M_accessBytes_L115
  exact ⟨fun _ => a4, fun _ => a8, fun _ => a4, fun _ => a8, fun _ => a1, fun _ => a1, fun _ => a2, fun _ => a2, fun _ => a1, fun _ => a1, fun _ => a2, fun _ => a2, fun _ => a4, fun _ => a4, fun _ => a4, fun _ => a8, fun _ => a4, fun _ => a8, fun _ => a1, fun _ => a2, fun _ => a1, fun _ => a2, fun _ => a4, fun _ _ _ _ _ _ _ _ _ _ _ _ _ _ _ _ _ _ _ _ _ _ _ => a1⟩
theorem m_ckMem {x1 x : Int32} {q' : Nat} (h1 : x1.toInt = m) (hx : x.toInt = op) (o1 : 40 ≤ op) (o2 : op ≤ 64) (hz : v 17 = 0) (hp : rdP v (qb D) (q + 1) (qe D)) (hW : rW (qc D) (wk_sh op) (q + 1) q') (hq : q' ≤ qe D) (hE : bE own mm A h F v m D t lcn lo cur ex f r g) (hQ : bQ A h F mm v D lo t lcn lv q op cur f r ν g Qr) : w_M_total mm x1 2 (mH h F mm v) (fun (r17 : Int64) (h16 : xb_H) => xb_ext (mH h F mm v) h16 → ((r17 ≤ (0 : Int64) → w_M_checkInstruction_L91 Qr mm x 0 mm h16) ∧ (¬ r17 ≤ (0 : Int64) → w_M_checkInstruction_L91 Qr mm x 1 mm h16))) := by
  obtain ⟨⟨hX, -, -, -⟩, ⟨hS, hex, hl, hg, hfl, hty, -⟩, -⟩ := id hE
  have hB := hX.1
  have hs := hX.rd
  have gn4 : gn D 4 / 3 = iM D 2 + qt D 5 := by
    show 3 * (iM D 2 + qt D 5) / 3 = _
    omega
  have L91 : ∀ y : Int32, (y ≠ 0 → 0 < iM D 2 + qt D 5) → w_M_checkInstruction_L91 Qr mm x y mm (mH h F mm v) := by
    intro y hy
    unfold w_M_checkInstruction_L91 w_M_checkInstruction_L139
    refine ⟨hB.2.1, m_need hB.2.1 (by decide) (fun v1 n1 n2 n3 _ => ⟨hB.2.1, ?_⟩)⟩
    have S1 := hS.n2 n1
    -- the rest of an access
    have L87 : ∀ (v2 : Nat → Int32) (cur2 ex2 : List Int), bv v v2 → zS A F v2 cur2 (f :: r) g → cur2 = ex2 ++ fb f → cur2.length ≤ cur.length → op < 63 → (v2 17 = 0 → 0 < iM D 2 + qt D 5 ∧ (op < 54 → cur2 = cur) ∧ (54 ≤ op → ∃ rr, ck_tk f cur (MT (op - 40)) rr cur2)) → w_M_checkMemory_L87 (fun h5 => xb_ext (mH h F mm v1) h5 → Qr h5) mm x (mH h F mm v2) := by
      intro v2 cur2 ex2 g1 g2 g3 g4 o3 g5
      unfold w_M_checkMemory_L87 w_M_checkMemory_L108
      refine ⟨hB.2.1, m_take hB g2 g3 (by omega) hfl (by decide) (fun u v3 cur3 ex3 d1 d2 d3 d4 d5 _ d7 _ => ⟨fun h54 _ => ?_, fun h54 => ?_⟩)⟩
      · rw [z_le, hx] at h54
        simp only [Int32.reduceToInt] at h54
        refine hQ v3 F cur3 (f :: r) ν g (g1.tr (bv.t3 d1)) bF.rf (fun hz3 => ?_)
        obtain ⟨z1, z2⟩ := d7 hz3
        obtain ⟨y1, -, y3⟩ := g5 z1
        obtain ⟨rr, y4⟩ := y3 (by omega)
        refine ⟨d2, KS_15 (by omega) (by omega) ⟨by rw [gn4]; exact y1, fun e => by omega, fun e => by omega, fun e => by omega, fun _ _ => ⟨rfl, rr, u.toInt, cur2, ?_, z2⟩, rfl, rfl⟩, fun _ => rfl⟩
        rw [show ((op : Int) - 40).toNat = op - 40 by omega]
        exact y4
      · rw [z_le, hx] at h54
        simp only [Int32.reduceToInt] at h54
        refine m_accessType hx o1 (by omega) (fun u6 e6 _ => ?_)
        have tb := mt_ty (op - 40) (by omega)
        refine m_put hB d2 (by omega) (by omega) (fun v4 w p1 p2 _ _ => hQ v4 _ (u6.toInt :: cur3) (f :: r) ν (max g (cur3.length + 1)) (g1.tr ((bv.t3 d1).tr (bv.p2 p1))) (bF.up (by decide)) (fun hz4 => ?_))
        rw [p1 17 (by decide) (by decide)] at hz4
        obtain ⟨z1, z2⟩ := d7 hz4
        obtain ⟨y1, y2, -⟩ := g5 z1
        have e9 := y2 (by omega)
        rw [e9] at z2
        refine ⟨p2, KS_15 (by omega) (by omega) ⟨by rw [gn4]; exact y1, fun e => by omega, fun e => by omega, fun _ => ⟨u.toInt, cur3, z2, .inr ⟨?_, ?_, rfl⟩⟩, fun e => by omega, rfl, rfl⟩, fun _ => rfl⟩
        · rw [show ((op : Int) - 40).toNat = op - 40 by omega]
          omega
        · rw [show ((op : Int) - 40).toNat = op - 40 by omega, ← e6]
    have L67 : ∀ (v2 : Nat → Int32) (y0 : Int32), bv v v2 → zS A F v2 cur (f :: r) g → op < 63 → (v2 17 = 0 → 0 < iM D 2 + qt D 5) → w_M_checkMemory_L67 (fun h5 => xb_ext (mH h F mm v1) h5 → Qr h5) mm x y0 mm (mH h F mm v2) := by
      intro v2 y0 g1 g2 o3 g5
      unfold w_M_checkMemory_L67
      refine ⟨hB.2.1, m_need hB.2.1 (by decide) (fun v3 m1 m2 m3 _ => ⟨fun h54 => ?_, fun h54 => m_accessType hx o1 (by omega) (fun u6 e6 _ => ⟨hB.2.1, ?_⟩)⟩)⟩
      · rw [z_lt, hx] at h54
        simp only [Int32.reduceToInt] at h54
        exact L87 v3 cur ex (g1.tr (bv.n2 m1)) (g2.n2 m1) hex (Nat.le_refl _) o3 (fun hz3 => ⟨g5 (m2 hz3).1, fun _ => rfl, fun e => by omega⟩)
      · rw [z_lt, hx] at h54
        simp only [Int32.reduceToInt] at h54
        have tb := mt_ty (op - 40) (by omega)
        exact m_take hB (g2.n2 m1) hex (by omega) hfl (by omega) (fun u v4 cur4 ex4 d1 d2 d3 d4 d5 _ d7 _ => L87 v4 cur4 ex4 (g1.tr ((bv.n2 m1).tr (bv.t3 d1))) d2 d3 d5 o3 (fun hz4 => ⟨g5 (m2 (d7 hz4).1).1, fun e => by omega, fun _ => ⟨u.toInt, by rw [← e6]; exact (d7 hz4).2⟩⟩))
    have L41 : ∀ (v2 : Nat → Int32) (y0 : Int64), bv v v2 → zS A F v2 cur (f :: r) g → op < 63 → (v2 17 = 0 → 0 < iM D 2 + qt D 5) → w_M_checkMemory_L41 (fun h5 => xb_ext (mH h F mm v1) h5 → Qr h5) mm x y0 (mH h F mm v2) := by
      intro v2 y0 g1 g2 o3 g5
      unfold w_M_checkMemory_L41 w_M_checkMemory_L66
      exact ⟨fun _ => L67 v2 0 g1 g2 o3 g5, fun _ => m_accessBytes (fun u _ _ => ⟨fun _ => L67 v2 0 g1 g2 o3 g5, fun _ => L67 v2 1 g1 g2 o3 g5⟩)⟩
    have L19 : ∀ (v2 : Nat → Int32) (cur2 : List Int), bv v v2 → zS A F v2 cur2 (f :: r) g → cur2.length ≤ cur.length → 63 ≤ op → (v2 17 = 0 → 0 < iM D 2 + qt D 5 ∧ (op = 63 → cur2 = cur) ∧ (op = 64 → ∃ rr, ck_tk f cur 127 rr cur2)) → w_M_checkMemory_L19 (fun h5 => xb_ext (mH h F mm v1) h5 → Qr h5) mm (mH h F mm v2) := by
      intro v2 cur2 g1 g2 g4 o3 g5
      unfold w_M_checkMemory_L19
      refine ⟨hB.2.1, m_put hB g2 (by omega) (by decide) (fun v4 w p1 p2 _ _ => hQ v4 _ ((127 : Int32).toInt :: cur2) (f :: r) ν (max g (cur2.length + 1)) (g1.tr (bv.p2 p1)) (bF.up (by decide)) (fun hz4 => ?_))⟩
      rw [p1 17 (by decide) (by decide)] at hz4
      obtain ⟨y1, y2, y3⟩ := g5 hz4
      refine ⟨p2, KS_15 (by omega) (by omega) ⟨by rw [gn4]; exact y1, fun e => ?_, fun e => ?_, fun e => by omega, fun _ e => by omega, rfl, rfl⟩, fun _ => rfl⟩
      · have := y2 (by omega)
        subst this
        exact .inr ⟨by decide, rfl, rfl⟩
      · obtain ⟨rr, y4⟩ := y3 (by omega)
        exact ⟨rr, cur2, y4, .inr ⟨by decide, rfl, rfl⟩⟩
    have tot : v1 17 = 0 → 0 < iM D 2 + qt D 5 := fun hz1 => hy (n2 hz1).2
    unfold w_M_checkMemory
    rw [mH_i]
    refine ⟨fun h63 => ⟨hB.2.1, fun hn => ?_, fun hz1 => ?_⟩, fun h63 => ⟨fun h64 => ?_, fun h64 => ⟨hB.2.1, ?_⟩⟩⟩
    · rw [z_lt, hx] at h63
      simp only [Int32.reduceToInt] at h63
      exact L41 v1 0 (bv.n2 n1) S1 (by omega) tot
    · rw [z_lt, hx] at h63
      simp only [Int32.reduceToInt] at h63
      have e9 := n3 (n2 hz1).2
      subst e9
      rw [(wk_sh_m (op := (op : Int)) (by omega) (by omega)).1 (by omega)] at hW
      obtain ⟨p1, a, b, w1, w2⟩ := rW_7i.mp hW
      have hb2 := rC_b w2
      exact m_count_k hs hp hz w1 (by omega) (fun v2 o2' z2 _ => L41 v2 a o2'.vg.bv (hS.vg o2'.vg) (by omega) (fun _ => tot hz1))
    · rw [z_lt, hx] at h63
      simp only [Int32.reduceToInt] at h63
      have : op = 63 := by
        rw [z_eq, hx] at h64
        simp only [Int32.reduceToInt] at h64
        omega
      exact L19 v1 cur (bv.n2 n1) S1 (Nat.le_refl _) (by omega) (fun hz1 => ⟨tot hz1, fun _ => rfl, fun e => by omega⟩)
    · have : op = 64 := by
        rw [z_eq, hx] at h64
        simp only [Int32.reduceToInt] at h64
        omega
      exact m_take hB S1 hex (by omega) hfl (by decide) (fun u v4 cur4 ex4 d1 d2 d3 d4 d5 _ d7 _ => L19 v4 cur4 ((bv.n2 n1).tr (bv.t3 d1)) d2 d5 (by omega) (fun hz4 => ⟨tot (d7 hz4).1, fun e => by omega, fun _ => ⟨u.toInt, (d7 hz4).2⟩⟩))
  refine m_total (κ := 2) hX h1 rfl (by decide) (fun r17 hr _ => ⟨fun _ => L91 0 (fun h9 => absurd rfl h9), fun hle => L91 1 (fun _ => ?_)⟩)
  rw [Z_le, hr, show (3 + 2 : Nat) = 5 from rfl, show (0 : Int64).toInt = 0 from rfl] at hle
  omega
end MK5

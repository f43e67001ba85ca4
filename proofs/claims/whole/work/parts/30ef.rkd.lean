-- equality, checking a body: numbers and memory (the reference)
/-- from 69 on -/
def ckN (f : s5) (cur : List Int) (g : Int) (fs : List s5) (op : Nat) : Except Nat cO :=
  if sgN op = 2 then (tkO f cur (sgA op)).bind (fun a => (tkO f a.2 (sgA op)).bind (fun b => .ok (ptC b.2 g (sgR op) fs))) else (tkO f cur (sgA op)).bind (fun b => .ok (ptC b.2 g (sgR op) fs))
/-- how many bytes -/
def aB (op : Nat) : Nat := if op = 41 ∨ op = 43 ∨ op = 55 ∨ op = 57 then 8 else if op = 40 ∨ op = 42 ∨ op = 52 ∨ op = 53 ∨ op = 54 ∨ op = 56 ∨ op = 62 then 4 else if op = 46 ∨ op = 47 ∨ op = 50 ∨ op = 51 ∨ op = 59 ∨ op = 61 then 2 else 1
def ckAc (f : s5) (cur : List Int) (g : Int) (fs : List s5) (op : Nat) : Except Nat cO :=
  if op < 54 then (tkO f cur 127).bind (fun b => .ok (ptC b.2 g (MT (op - 40)) fs)) else (tkO f cur (MT (op - 40))).bind (fun a => (tkO f a.2 127).bind (fun b => .ok (b.2, fs, g)))
def ckMx (f : s5) (cur : List Int) (g : Int) (fs : List s5) (op y : Nat) : Except Nat cO :=
  if op = 63 then .ok (ptC cur g 127 fs) else if op = 64 then (tkO f cur 127).bind (fun a => .ok (ptC a.2 g 127 fs)) else if y < 4 ∧ 2 ^ y ≤ aB op then ckAc f cur g fs op else .error 22
def ckMm (hm : Prop) [Decidable hm] (f : s5) (cur : List Int) (g : Int) (fs : List s5) (op y : Nat) : Except Nat cO := if hm then ckMx f cur g fs op y else .error 20
/-- what an instruction's check leaves, exactly -/
def bXq (A : Nat → Nat) (h : xb_H) (F : Nat → Nat → Int32) (mm : Nat) (v : Nat → Int32) (D : zM) (lo : Nat → Int32) (t lcn : Nat) (lv : Bool) (q op : Nat) (cur : List Int) (f : ckF) (r : List ckF) (ν : Nat → Int32) (g : Int) (R : Except Nat cO) (Qr : xb_H → Prop) : Prop :=
  ∀ (v' : Nat → Int32) (F' : Nat → Nat → Int32) (cur' : List Int) (fs' : List ckF) (ν' : Nat → Int32) (g' : Int), bv v v' → bF A F F' → gd D q R v' → (v' 17 = 0 → zS A F' v' cur' fs' g' ∧ ck_st (gn D) (gv D) (qc D) lo t lcn lv q op cur f r ν g cur' fs' ν' g' ∧ (4 ≤ wk_sh op → ν' q = ν q) ∧ R = .ok (cur', fs'.map sp5, g')) → Qr (mH h F' mm v')
theorem aB_tb : ∀ k, k < 23 → aB (k + 40) = 1 ∨ aB (k + 40) = 2 ∨ aB (k + 40) = 4 ∨ aB (k + 40) = 8 := by decide
section RKD
variable {own : Nat → Nat} {mm m : Nat} {A : Nat → Nat} {h : xb_H} {F F' F2 : Nat → Nat → Int32} {v v' v2 cb lo ν : Nat → Int32} {D : zM} {cur ex : List Int} {fs r : List ckF} {f : ckF} {g : Int} {t lcn q op : Nat} {lv : Bool} {Qr : xb_H → Prop} {R : Except Nat cO}
theorem bXq.d (hQ : bXq A h F mm v D lo t lcn lv q op cur f r ν g R Qr) {v' : Nat → Int32} {F' : Nat → Nat → Int32} (h1 : bv v v') (h2 : bF A F F') (h3 : gd D q R v') (hn : v' 17 ≠ 0) : Qr (mH h F' mm v') := hQ v' F' [] [] ν 0 h1 h2 h3 (fun hz => absurd hz hn)
theorem gd.p2 (hg : gd D q R v) (h : ∀ j, j ≠ 22 → j ≠ 23 → v' j = v j) : gd D q R v' := hg.fr (fun j h1 h2 _ _ => h j h1 h2)
theorem ptC_n {c : List Int} {x : Int} {fs : List s5} (h : x ≠ 64) : ptC c g x fs = (x :: c, fs, max g (c.length + 1)) := if_neg h
theorem ptC_p {c c' : List Int} {x g' : Int} {fs : List s5} (h : ck_pt c g x c' g') : ptC c g x fs = (c', fs, g') := by
  rcases h with ⟨h1, h2, h3⟩ | ⟨h1, h2, h3⟩
  · unfold ptC
    rw [if_pos h1, h2, h3]
  · rw [ptC_n h1, h2, h3]
theorem ckN_1 {f : s5} {fs : List s5} (h : sgN op ≠ 2) : ckN f cur g fs op = (tkO f cur (sgA op)).bind (fun b => .ok (ptC b.2 g (sgR op) fs)) := if_neg h
theorem ckN_2 {f : s5} {fs : List s5} (h : sgN op = 2) : ckN f cur g fs op = (tkO f cur (sgA op)).bind (fun a => (tkO f a.2 (sgA op)).bind (fun b => .ok (ptC b.2 g (sgR op) fs))) := if_pos h
theorem ckMm_m {hm : Prop} [Decidable hm] {f : s5} {fs : List s5} {y : Nat} (h : hm) : ckMm hm f cur g fs op y = ckMx f cur g fs op y := if_pos h
theorem ckMm_20 {hm : Prop} [Decidable hm] {f : s5} {fs : List s5} {y : Nat} (h : ¬ hm) : ckMm hm f cur g fs op y = .error 20 := if_neg h
theorem ckMx_63 {f : s5} {fs : List s5} {y : Nat} (h : op = 63) : ckMx f cur g fs op y = .ok (ptC cur g 127 fs) := if_pos h
theorem ckMx_64 {f : s5} {fs : List s5} {y : Nat} (h : op = 64) : ckMx f cur g fs op y = (tkO f cur 127).bind (fun a => .ok (ptC a.2 g 127 fs)) := by
  unfold ckMx
  rw [if_neg (by omega), if_pos h]
theorem ckMx_a {f : s5} {fs : List s5} {y : Nat} (h : op < 63) : ckMx f cur g fs op y = if y < 4 ∧ 2 ^ y ≤ aB op then ckAc f cur g fs op else .error 22 := by
  unfold ckMx
  rw [if_neg (by omega), if_neg (by omega)]
theorem ckAc_l {f : s5} {fs : List s5} (h : op < 54) : ckAc f cur g fs op = (tkO f cur 127).bind (fun b => .ok (ptC b.2 g (MT (op - 40)) fs)) := if_pos h
theorem ckAc_s {f : s5} {fs : List s5} (h : ¬ op < 54) : ckAc f cur g fs op = (tkO f cur (MT (op - 40))).bind (fun a => (tkO f a.2 127).bind (fun b => .ok (b.2, fs, g))) := if_neg h
theorem shl_p {y : Int64} {n : Nat} (h1 : y.toInt = n) (h2 : n < 4) : (1 <<< (Int64.toInt32 y &&& 31) : Int32).toInt = ((2 ^ n : Nat) : Int) := by
  have e : Int64.toInt32 y = Int32.ofNat n := by
    rw [z_eq, z_of64, h1]
    have : n = 0 ∨ n = 1 ∨ n = 2 ∨ n = 3 := by omega
    rcases this with e | e | e | e <;> subst e <;> rfl
  rw [e]
  have : n = 0 ∨ n = 1 ∨ n = 2 ∨ n = 3 := by omega
  rcases this with e | e | e | e <;> subst e <;> rfl
theorem x_ckNum {x : Int32} (hx : x.toInt = op) (h1 : 69 ≤ op) (h2 : op < 192) (hE : bE own mm A h F v m D t lcn lo cur ex f r g) (hgd : gd D q R v) (hR : R = ckN (sp5 f) cur g ((f :: r).map sp5) op) (hQ : bXq A h F mm v D lo t lcn lv q op cur f r ν g R Qr) : w_Exact_second x (mH h F mm v) (fun (r23 : Int32) (h22 : xb_H) => xb_ext (mH h F mm v) h22 → ((r23 < (0 : Int32) → w_M_checkInstruction_L24 Qr mm x h22) ∧ (¬ r23 < (0 : Int32) → xb_k h22 mm = 9 ∧ w_M_take mm (127 - r23) h22 (fun (r27 : Int32) (h26 : xb_H) => xb_ext h22 h26 → w_M_checkInstruction_L24 Qr mm x h26)))) := by
  obtain ⟨⟨hX, -, -, -⟩, ⟨hS, hex, hl, hg, hfl, hty, -⟩, -⟩ := id hE
  have hB := hX.1
  obtain ⟨i, i1, i2, i3, i4, i5, i6⟩ := sg_row op h2 h1
  obtain ⟨t1, t2, t3, t4⟩ := sg_rng op h2 h1
  have sub : ∀ (z : Int32), z.toInt = 127 - sgA op → (127 - z).toInt = sgA op := fun z hz => by
    rw [z_sub, hz]
    simp only [Int32.reduceToInt]
    omega
  have L24 : ∀ (v1 : Nat → Int32) (cur1 ex1 : List Int), bv v v1 → zS A F v1 cur1 (f :: r) g → cur1 = ex1 ++ fb f → cur1.length ≤ cur.length → (∀ y ∈ cur1, ck_t y) → (v1 17 = 0 → ∀ rr c, ck_tk f cur1 (sgA op) rr c → ck_tkl f cur (List.replicate (SG (4 * i + 1)).toNat (SG (4 * i + 2))) c) → gd D q R v1 → (v1 17 = 0 → R = (tkO (sp5 f) cur1 (sgA op)).bind (fun b => .ok (ptC b.2 g (sgR op) ((f :: r).map sp5)))) → w_M_checkInstruction_L24 Qr mm x (mH h F mm v1) := by
    intro v1 cur1 ex1 g1 g2 g3 g4 g5 g6 g7 g8
    unfold w_M_checkInstruction_L24 w_M_checkInstruction_L139
    refine sp_efirst hx h1 h2 (fun r2 e2 _ => ⟨hB.2.1, x_take hB g7 (fun hz => by rw [g8 hz, sub r2 e2]) g2 g3 (by omega) hfl (by rw [sub r2 e2]; omega) (fun u v2 cur2 ex2 d1 d2 d3 d4 d5 _ d7 dg dR _ => sp_eresult hx h1 h2 (fun r7 e7 _ => ?_))⟩)
    have e8 : (127 - r7).toInt = sgR op := by
      rw [z_sub, e7]
      simp only [Int32.reduceToInt]
      omega
    refine m_put hB d2 (by omega) (by omega) (fun v3 w p1 p2 _ => hQ v3 _ _ _ ν _ (g1.tr ((bv.t3 d1).tr (bv.p2 p1))) (bF.up (by decide)) (dg.p2 p1) (fun hz => ⟨p2, KS_17 (by omega) ⟨i, cur2, i1, i2, i3, ?_, ?_, rfl, rfl⟩, fun _ => rfl, ?_⟩))
    · rw [p1 17 (by decide) (by decide)] at hz
      obtain ⟨z1, z2⟩ := d7 hz
      rw [sub r2 e2] at z2
      exact g6 z1 _ _ z2
    · rw [i6, e8]
      exact .inr ⟨by omega, rfl, rfl⟩
    · rw [p1 17 (by decide) (by decide)] at hz
      rw [dR hz, e8, ptC_n (by omega)]
  refine sp_esecond hx h1 h2 (fun r23 e23 _ => ⟨fun hneg => ?_, fun hpos => ⟨hB.2.1, ?_⟩⟩)
  · rcases e23 with ⟨e1, e2⟩ | ⟨e1, -⟩
    · rw [z_lt, e2] at hneg
      simp only [Int32.reduceToInt] at hneg
      omega
    · refine L24 v cur ex bv.rf hS hex (Nat.le_refl _) hty (fun _ rr c hc => ?_) hgd (fun _ => by rw [hR, ckN_1 (by omega)])
      rw [i4, i5, e1]
      exact ⟨rr, c, hc, rfl⟩
  · rcases e23 with ⟨e1, e2⟩ | ⟨-, e2⟩
    · refine x_take hB hgd (fun _ => by rw [hR, ckN_2 e1, sub r23 e2]) hS hex (by omega) hfl (by rw [sub r23 e2]; omega) (fun u v2 cur2 ex2 d1 d2 d3 d4 d5 _ d7 dg dR _ => L24 v2 cur2 ex2 (bv.t3 d1) d2 d3 d5 (fun y hy => hty y (d4 y hy)) (fun hz rr c hc => ?_) dg dR)
      obtain ⟨z1, z2⟩ := d7 hz
      rw [sub r23 e2] at z2
      rw [i4, i5, e1]
      exact ⟨u.toInt, cur2, z2, rr, c, hc, rfl⟩
    · rw [z_lt, e2] at hpos
      simp only [Int32.reduceToInt] at hpos
      omega
theorem x_accessBytes {x : Int32} {H : xb_H} {Qr : Int32 → xb_H → Prop} (hx : x.toInt = op) (h1 : 40 ≤ op) (h2 : op ≤ 62) (hQ : ∀ u : Int32, u.toInt = aB op → Qr u H) : w_M_accessBytes x H Qr := by
  have tb := aB_tb (op - 40) (by omega)
  rw [show op - 40 + 40 = op by omega] at tb
  have a : ∀ c : Int32, c.toInt = aB op → Qr c H := hQ
  have e1 : aB op = 1 → Qr 1 H := fun e => hQ 1 (by rw [e]; rfl)
  have e2 : aB op = 2 → Qr 2 H := fun e => hQ 2 (by rw [e]; rfl)
  have e4 : aB op = 4 → Qr 4 H := fun e => hQ 4 (by rw [e]; rfl)
  have e8 : aB op = 8 → Qr 8 H := fun e => hQ 8 (by rw [e]; rfl)
  have lit : ∀ c : Int32, x = c ↔ (op : Int) = c.toInt := fun c => by rw [z_eq, hx]
  unfold w_M_accessBytes w_M_accessBytes_L108 w_M_accessBytes_L111 w_M_accessBytes_L113 w_M_accessBytes_L115
  simp only [lit, Int32.reduceToInt]
  refine ⟨fun k => e4 ?_, fun k => e8 ?_, fun k => e4 ?_, fun k => e8 ?_, fun k => e1 ?_, fun k => e1 ?_, fun k => e2 ?_, fun k => e2 ?_, fun k => e1 ?_, fun k => e1 ?_, fun k => e2 ?_, fun k => e2 ?_, fun k => e4 ?_, fun k => e4 ?_, fun k => e4 ?_, fun k => e8 ?_, fun k => e4 ?_, fun k => e8 ?_, fun k => e1 ?_, fun k => e2 ?_, fun k => e1 ?_, fun k => e2 ?_, fun k => e4 ?_, fun k1 k2 k3 k4 k5 k6 k7 k8 k9 k10 k11 k12 k13 k14 k15 k16 k17 k18 k19 k20 k21 k22 k23 => by omega⟩
  all_goals
    have ho : op = _ := Int.ofNat.inj k
    subst ho
    rfl
theorem x_ckMem {x1 x : Int32} {q' : Nat} (h1 : x1.toInt = m) (hx : x.toInt = op) (o1 : 40 ≤ op) (o2 : op ≤ 64) (hz : v 17 = 0) (hp : rdP v (qb D) (q + 1) (qe D)) (hW : rW (qc D) (wk_sh op) (q + 1) q') (hq : q' ≤ qe D) (hE : bE own mm A h F v m D t lcn lo cur ex f r g) (hgd : gd D q R v) (hR : R = ckMm (0 < iM D 2 + qt D 5) (sp5 f) cur g ((f :: r).map sp5) op (cV (qc D) (q + 1))) (hQ : bXq A h F mm v D lo t lcn lv q op cur f r ν g R Qr) : w_M_total mm x1 2 (mH h F mm v) (fun (r17 : Int64) (h16 : xb_H) => xb_ext (mH h F mm v) h16 → ((r17 ≤ (0 : Int64) → w_M_checkInstruction_L91 Qr mm x 0 mm h16) ∧ (¬ r17 ≤ (0 : Int64) → w_M_checkInstruction_L91 Qr mm x 1 mm h16))) := by
  obtain ⟨⟨hX, -, -, -⟩, ⟨hS, hex, hl, hg, hfl, hty, -⟩, -⟩ := id hE
  have hB := hX.1
  have hs := hX.rd
  have gn4 : gn D 4 / 3 = iM D 2 + qt D 5 := by
    show 3 * (iM D 2 + qt D 5) / 3 = _
    omega
  have L91 : ∀ y : Int32, (y ≠ 0 ↔ 0 < iM D 2 + qt D 5) → w_M_checkInstruction_L91 Qr mm x y mm (mH h F mm v) := by
    intro y hy
    unfold w_M_checkInstruction_L91 w_M_checkInstruction_L139
    refine ⟨hB.2.1, x_need (cc := 20) hB.2.1 hgd rfl (by decide) (fun _ => ⟨fun h0 => by rw [hR, ckMm_m (hy.mp h0)], fun h0 => by rw [hR, ckMm_20 (fun h9 => hy.mpr h9 h0)]⟩) (fun v1 n1 n2 n3 ng nR _ => ⟨hB.2.1, ?_⟩)⟩
    have S1 := hS.n2 n1
    -- the rest of an access
    have L87 : ∀ (v2 : Nat → Int32) (cur2 ex2 : List Int), bv v v2 → zS A F v2 cur2 (f :: r) g → cur2 = ex2 ++ fb f → cur2.length ≤ cur.length → op < 63 → (v2 17 = 0 → 0 < iM D 2 + qt D 5 ∧ (op < 54 → cur2 = cur) ∧ (54 ≤ op → ∃ rr, ck_tk f cur (MT (op - 40)) rr cur2)) → gd D q R v2 → (v2 17 = 0 → R = (tkO (sp5 f) cur2 127).bind (fun b => .ok (if op < 54 then ptC b.2 g (MT (op - 40)) ((f :: r).map sp5) else (b.2, ((f :: r).map sp5), g)))) → w_M_checkMemory_L87 (fun h5 => xb_ext (mH h F mm v1) h5 → Qr h5) mm x (mH h F mm v2) := by
      intro v2 cur2 ex2 g1 g2 g3 g4 o3 g5 g6 g7
      unfold w_M_checkMemory_L87 w_M_checkMemory_L108
      refine ⟨hB.2.1, x_take hB g6 g7 g2 g3 (by omega) hfl (by decide) (fun u v3 cur3 ex3 d1 d2 d3 d4 d5 _ d7 dg dR _ => ⟨fun h54 _ => ?_, fun h54 => ?_⟩)⟩
      · rw [z_le, hx] at h54
        simp only [Int32.reduceToInt] at h54
        refine hQ v3 F cur3 (f :: r) ν g (g1.tr (bv.t3 d1)) bF.rf dg (fun hz3 => ?_)
        obtain ⟨z1, z2⟩ := d7 hz3
        obtain ⟨y1, -, y3⟩ := g5 z1
        obtain ⟨rr, y4⟩ := y3 (by omega)
        refine ⟨d2, KS_15 (by omega) (by omega) ⟨by rw [gn4]; exact y1, fun e => by omega, fun e => by omega, fun e => by omega, fun _ _ => ⟨rfl, rr, u.toInt, cur2, ?_, z2⟩, rfl, rfl⟩, fun _ => rfl, by rw [dR hz3, if_neg (by omega)]⟩
        rw [show ((op : Int) - 40).toNat = op - 40 by omega]
        exact y4
      · rw [z_le, hx] at h54
        simp only [Int32.reduceToInt] at h54
        refine m_accessType hx o1 (by omega) (fun u6 e6 _ => ?_)
        have tb := mt_ty (op - 40) (by omega)
        refine m_put hB d2 (by omega) (by omega) (fun v4 w p1 p2 _ _ => hQ v4 _ (u6.toInt :: cur3) (f :: r) ν (max g (cur3.length + 1)) (g1.tr ((bv.t3 d1).tr (bv.p2 p1))) (bF.up (by decide)) (dg.p2 p1) (fun hz4 => ?_))
        rw [p1 17 (by decide) (by decide)] at hz4
        obtain ⟨z1, z2⟩ := d7 hz4
        obtain ⟨y1, y2, -⟩ := g5 z1
        have e9 := y2 (by omega)
        rw [e9] at z2
        refine ⟨p2, KS_15 (by omega) (by omega) ⟨by rw [gn4]; exact y1, fun e => by omega, fun e => by omega, fun _ => ⟨u.toInt, cur3, z2, .inr ⟨?_, ?_, rfl⟩⟩, fun e => by omega, rfl, rfl⟩, fun _ => rfl, by rw [dR hz4, if_pos (by omega), ← e6, ptC_n (by rw [e6]; omega)]⟩
        · rw [show ((op : Int) - 40).toNat = op - 40 by omega]
          omega
        · rw [show ((op : Int) - 40).toNat = op - 40 by omega, ← e6]
    have L67 : ∀ (v2 : Nat → Int32) (y0 : Int32), bv v v2 → zS A F v2 cur (f :: r) g → op < 63 → (v2 17 = 0 → 0 < iM D 2 + qt D 5) → gd D q R v2 → (v2 17 = 0 → (y0 ≠ 0 → R = ckAc (sp5 f) cur g ((f :: r).map sp5) op) ∧ (y0 = 0 → R = .error 22)) → w_M_checkMemory_L67 (fun h5 => xb_ext (mH h F mm v1) h5 → Qr h5) mm x y0 mm (mH h F mm v2) := by
      intro v2 y0 g1 g2 o3 g5 g6 g7
      unfold w_M_checkMemory_L67
      refine ⟨hB.2.1, x_need (cc := 22) hB.2.1 g6 rfl (by decide) g7 (fun v3 m1 m2 m3 mg mR _ => ⟨fun h54 => ?_, fun h54 => m_accessType hx o1 (by omega) (fun u6 e6 _ => ⟨hB.2.1, ?_⟩)⟩)⟩
      · rw [z_lt, hx] at h54
        simp only [Int32.reduceToInt] at h54
        exact L87 v3 cur ex (g1.tr (bv.n2 m1)) (g2.n2 m1) hex (Nat.le_refl _) o3 (fun hz3 => ⟨g5 (m2 hz3).1, fun _ => rfl, fun e => by omega⟩) mg (fun hz3 => by rw [mR hz3, ckAc_l (by omega)]; simp only [if_pos (show op < 54 by omega)])
      · rw [z_lt, hx] at h54
        simp only [Int32.reduceToInt] at h54
        have tb := mt_ty (op - 40) (by omega)
        exact x_take hB mg (fun hz3 => by rw [mR hz3, ckAc_s (by omega), e6]) (g2.n2 m1) hex (by omega) hfl (by omega) (fun u v4 cur4 ex4 d1 d2 d3 d4 d5 _ d7 dg dR _ => L87 v4 cur4 ex4 (g1.tr ((bv.n2 m1).tr (bv.t3 d1))) d2 d3 d5 o3 (fun hz4 => ⟨g5 (m2 (d7 hz4).1).1, fun e => by omega, fun _ => ⟨u.toInt, by rw [← e6]; exact (d7 hz4).2⟩⟩) dg (fun hz4 => by rw [dR hz4]; simp only [if_neg (show ¬ op < 54 by omega)]))
    have L41 : ∀ (v2 : Nat → Int32) (y0 : Int64), bv v v2 → zS A F v2 cur (f :: r) g → op < 63 → (v2 17 = 0 → 0 < iM D 2 + qt D 5) → gd D q R v2 → (v2 17 = 0 → y0.toInt = cV (qc D) (q + 1)) → w_M_checkMemory_L41 (fun h5 => xb_ext (mH h F mm v1) h5 → Qr h5) mm x y0 (mH h F mm v2) := by
      intro v2 y0 g1 g2 o3 g5 g6 g7
      have ra : v2 17 = 0 → R = if cV (qc D) (q + 1) < 4 ∧ 2 ^ cV (qc D) (q + 1) ≤ aB op then ckAc (sp5 f) cur g ((f :: r).map sp5) op else .error 22 := fun hz2 => by rw [hR, ckMm_m (g5 hz2), ckMx_a o3]
      unfold w_M_checkMemory_L41 w_M_checkMemory_L66
      refine ⟨fun h4 => L67 v2 0 g1 g2 o3 g5 g6 (fun hz2 => ⟨fun h9 => absurd rfl h9, fun _ => ?_⟩), fun h4 => x_accessBytes hx o1 (by omega) (fun u hu _ => ⟨fun h5 => L67 v2 0 g1 g2 o3 g5 g6 (fun hz2 => ⟨fun h9 => absurd rfl h9, fun _ => ?_⟩), fun h5 => L67 v2 1 g1 g2 o3 g5 g6 (fun hz2 => ⟨fun _ => ?_, fun h9 => absurd h9 (by decide)⟩)⟩)⟩
      · rw [ra hz2, if_neg]
        have := g7 hz2
        rw [Z_le, show (4 : Int64).toInt = 4 from rfl, this] at h4
        omega
      · have h7 := g7 hz2
        rw [Z_le, show (4 : Int64).toInt = 4 from rfl, h7] at h4
        rw [ra hz2, if_neg]
        rintro ⟨h8, h9⟩
        have := shl_p h7 h8
        rw [z_lt, hu, this] at h5
        omega
      · have h7 := g7 hz2
        rw [Z_le, show (4 : Int64).toInt = 4 from rfl, h7] at h4
        have h8 : cV (qc D) (q + 1) < 4 := by omega
        have := shl_p h7 h8
        rw [z_lt, hu, this] at h5
        rw [ra hz2, if_pos ⟨h8, by omega⟩]
    have L19 : ∀ (v2 : Nat → Int32) (cur2 : List Int), bv v v2 → zS A F v2 cur2 (f :: r) g → cur2.length ≤ cur.length → 63 ≤ op → (v2 17 = 0 → 0 < iM D 2 + qt D 5 ∧ (op = 63 → cur2 = cur) ∧ (op = 64 → ∃ rr, ck_tk f cur 127 rr cur2)) → gd D q R v2 → (v2 17 = 0 → R = .ok (ptC cur2 g 127 ((f :: r).map sp5))) → w_M_checkMemory_L19 (fun h5 => xb_ext (mH h F mm v1) h5 → Qr h5) mm (mH h F mm v2) := by
      intro v2 cur2 g1 g2 g4 o3 g5 g6 g7
      unfold w_M_checkMemory_L19
      refine ⟨hB.2.1, m_put hB g2 (by omega) (by decide) (fun v4 w p1 p2 _ _ => hQ v4 _ ((127 : Int32).toInt :: cur2) (f :: r) ν (max g (cur2.length + 1)) (g1.tr (bv.p2 p1)) (bF.up (by decide)) (g6.p2 p1) (fun hz4 => ?_))⟩
      rw [p1 17 (by decide) (by decide)] at hz4
      obtain ⟨y1, y2, y3⟩ := g5 hz4
      refine ⟨p2, KS_15 (by omega) (by omega) ⟨by rw [gn4]; exact y1, fun e => ?_, fun e => ?_, fun e => by omega, fun _ e => by omega, rfl, rfl⟩, fun _ => rfl, by rw [g7 hz4, ptC_n (by decide)]; rfl⟩
      · have := y2 (by omega)
        subst this
        exact .inr ⟨by decide, rfl, rfl⟩
      · obtain ⟨rr, y4⟩ := y3 (by omega)
        exact ⟨rr, cur2, y4, .inr ⟨by decide, rfl, rfl⟩⟩
    have tot : v1 17 = 0 → 0 < iM D 2 + qt D 5 := fun hz1 => hy.mp (n2 hz1).2
    unfold w_M_checkMemory
    rw [mH_i]
    refine ⟨fun h63 => ⟨hB.2.1, fun hn => ?_, fun hz1 => ?_⟩, fun h63 => ⟨fun h64 => ?_, fun h64 => ⟨hB.2.1, ?_⟩⟩⟩
    · rw [z_lt, hx] at h63
      simp only [Int32.reduceToInt] at h63
      exact L41 v1 0 (bv.n2 n1) S1 (by omega) tot ng (fun hz1 => absurd hz1 hn)
    · rw [z_lt, hx] at h63
      simp only [Int32.reduceToInt] at h63
      have e9 := n3 (n2 hz1).2
      subst e9
      rw [(wk_sh_m (op := (op : Int)) (by omega) (by omega)).1 (by omega)] at hW
      obtain ⟨p1, a, b, w1, w2⟩ := rW_7i.mp hW
      have hb2 := rC_b w2
      exact m_count_k hs hp hz w1 (by omega) (fun v2 o2' z2 _ => L41 v2 a o2'.vg.bv (hS.vg o2'.vg) (by omega) (fun _ => tot hz1) (ng.ro o2' z2) (fun _ => by rw [(rC_E w1).2]; have := rC_b w1; omega))
    · rw [z_lt, hx] at h63
      simp only [Int32.reduceToInt] at h63
      have : op = 63 := by
        rw [z_eq, hx] at h64
        simp only [Int32.reduceToInt] at h64
        omega
      exact L19 v1 cur (bv.n2 n1) S1 (Nat.le_refl _) (by omega) (fun hz1 => ⟨tot hz1, fun _ => rfl, fun e => by omega⟩) ng (fun hz1 => by rw [nR hz1, ckMx_63 this])
    · have : op = 64 := by
        rw [z_eq, hx] at h64
        simp only [Int32.reduceToInt] at h64
        omega
      exact x_take hB ng (fun hz1 => by rw [nR hz1, ckMx_64 this]; rfl) S1 hex (by omega) hfl (by decide) (fun u v4 cur4 ex4 d1 d2 d3 d4 d5 _ d7 dg dR _ => L19 v4 cur4 ((bv.n2 n1).tr (bv.t3 d1)) d2 d5 (by omega) (fun hz4 => ⟨tot (d7 hz4).1, fun e => by omega, fun _ => ⟨u.toInt, (d7 hz4).2⟩⟩) dg dR)
  refine m_total (κ := 2) hX h1 rfl (by decide) (fun r17 hr _ => ⟨fun hle => L91 0 ⟨fun h9 => absurd rfl h9, fun h9 => ?_⟩, fun hle => L91 1 ⟨fun _ => ?_, fun _ => by decide⟩⟩)
  all_goals
    rw [Z_le, hr, show (3 + 2 : Nat) = 5 from rfl, show (0 : Int64).toInt = 0 from rfl] at hle
    omega
end RKD

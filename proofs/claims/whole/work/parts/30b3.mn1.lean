-- the reference: what an import is given
/-- arrays that an instance in the making writes into -/
def nwA : List Nat := [31, 32, 33, 35, 36, 37, 38, 44, 45, 48, 49, 54, 59]
section MN1
variable {own : Nat → Nat} {mm m i ip k f t : Nat} {A : Nat → Nat} {h h' h2 : xb_H} {F F' F2 : Nat → Nat → Int32} {v v' v2 : Nat → Int32} {D : zM} {DM : Nat → zM} {len rl K : Nat} {Qr : Int32 → xb_H → Prop}
section
variable {φ φ' : Nat → Nat → Int32} {ν ν' : Nat → Int32}
/-- rows have changed behind what counts -/
theorem RX.ex (h : RX φ ν len DM) (h43 : vN ν 43 ≤ 8192) (hk : ∀ k, k ∈ aRI → k ∉ nwA → φ' k = φ k) (h31 : ∀ k, k ∈ [31, 32, 35, 36, 37, 38] → ∀ j, j < vN ν 30 → φ' k j = φ k j) (h33 : ∀ j, j < vN ν 34 → φ' 33 j = φ 33 j) (h44 : ∀ f, f < vN ν 43 → φ' 44 f = φ 44 f ∧ φ' 45 f = φ 45 f) (h48 : ∀ t, t < vN ν 46 → φ' 48 t = φ 48 t ∧ φ' 49 t = φ 49 t) (h54 : ∀ m, m < vN ν 52 → φ' 54 m = φ 54 m) (h59 : ∀ g, g < vN ν 58 → φ' 59 g = φ 59 g) : RX φ' ν len DM := by
  obtain ⟨b2, b3, b4, b5⟩ := h
  have hg : Gr φ ν DM φ' ν DM := ⟨fun _ _ => Nat.le_refl _, fun _ _ => rfl, h31, h33, h44, h59⟩
  have hK : ∀ k, k ∈ [3, 6, 7, 8, 9, 10, 11, 12] → φ' k = φ k := fun k hk9 => by
    have q : ∀ k, k ∈ [3, 6, 7, 8, 9, 10, 11, 12] → k ∈ aRI ∧ k ∉ nwA := by decide
    exact hk k (q k hk9).1 (q k hk9).2
  refine ⟨fun m hm => ?_, fun i hi => (b3 i hi).gr hi hg b3 b4 h43, ?_, b5.gr hg b3 b4 h43 (fun k hk9 => ?_) (fun _ _ => rfl)⟩
  · exact b2.ag ⟨fun _ _ => by rw [hK 3 (by decide)], fun _ _ => by rw [hK 6 (by decide), hK 7 (by decide)]; exact ⟨rfl, rfl⟩, fun _ _ => by rw [hK 8 (by decide), hK 9 (by decide)]; exact ⟨rfl, rfl⟩, fun _ _ => by rw [hK 10 (by decide)], fun _ _ => by rw [hK 11 (by decide), hK 12 (by decide)]; exact ⟨rfl, rfl⟩⟩ (Nat.le_refl _) (Nat.le_refl _) (Nat.le_refl _) hm
  · obtain ⟨a1, a2, a3, a4, a5, a6, a7⟩ := b4
    refine ⟨fun f hf => ?_, fun t ht => ?_, fun j hj => ?_, fun m hm => ?_, fun j hj => ?_, fun g hg9 => ?_, fun k hk9 => ?_⟩
    · obtain ⟨i, b, e1, e2, e3, e4⟩ := a1 f hf
      exact ⟨i, b, by rw [(h44 f hf).1]; exact e1, by rw [(h44 f hf).2]; exact e2, e3, by rw [hg.im e3]; exact e4⟩
    · rw [(h48 t ht).1, (h48 t ht).2]
      exact a2 t ht
    · rw [hk 51 (by decide) (by decide)]
      exact a3 j hj
    · rw [h54 m hm]
      exact a4 m hm
    · rw [hk 56 (by decide) (by decide)]
      exact a5 j hj
    · rw [h59 g hg9]
      exact a6 g hg9
    · rw [hk 39 (by decide) (by decide), hk 40 (by decide) (by decide), hk 41 (by decide) (by decide)]
      exact a7 k hk9
  · have q : ∀ k, k ∈ runA → k ∈ aRI ∧ k ∉ nwA := by decide
    exact hk k (q k hk9).1 (q k hk9).2
end
/-- the rows of an instance in the making -/
theorem rA.ex (hA : rA own mm A h F v DM len rl K) (hf : f0 own h F h' F') (h90 : F' (A 90) = F (A 90)) (h300 : ∀ a, own a = 300 → F' a = F a) (hv : ∀ k, k ∈ vRI → v' k = v k) (hk : ∀ k, k ∈ aRI → k ∉ nwA → F' (A k) = F (A k)) (h31 : ∀ k, k ∈ [31, 32, 35, 36, 37, 38] → ∀ j, j < vN v 30 → F' (A k) j = F (A k) j) (h33 : ∀ j, j < vN v 34 → F' (A 33) j = F (A 33) j) (h44 : ∀ f, f < vN v 43 → F' (A 44) f = F (A 44) f ∧ F' (A 45) f = F (A 45) f) (h48 : ∀ t, t < vN v 46 → F' (A 48) t = F (A 48) t ∧ F' (A 49) t = F (A 49) t) (h54 : ∀ m, m < vN v 52 → F' (A 54) m = F (A 54) m) (h59 : ∀ g, g < vN v 58 → F' (A 59) g = F (A 59) g) : rA own mm A h' F' v' DM len rl K := by
  have h1 : rA own mm A h' F' v DM len rl K := hA.ch hf h90 h300 (hA.s rfl rfl) ⟨hA.W1, hA.I.2.ex (hA.n (k := 43) (b := 8192) (by decide)).2 hk h31 h33 h44 h48 h54 h59⟩
  exact h1.vv hv
theorem lq.fr (hl : lq mm h h') (hB : mB own mm A h) : f0 own h F h' F := ⟨hl.1, hl.2.1, hl.2.2.1, fun a ha => ⟨hl.2.2.2.1 a (fun e => by rw [e, hB.1] at ha; omega), rfl⟩⟩
theorem rA.lq (hA : rA own mm A h F v DM len rl K) (hl : lq mm h h') : rA own mm A h' F v DM len rl K := hA.cg (hl.fr hA.B) rfl (fun _ _ => rfl) (fun _ _ => rfl) (fun _ _ => rfl)
theorem x_leastRead {st N b e p q : Nat} {cb : Nat → Int32} {Qr : Int64 → xb_H → Prop} (hs : rdH mm st N b e cb h F) (hp : rdP v b p e) (hz : v 17 = 0) (hl : rLim cb p q) (hq : q ≤ e) (hQ : ∀ (v' : Nat → Int32) (r y : Int64), ro v v' p q e → v' 17 = 0 → r.toInt = cV cb (p + 1) → y.toInt = (if ub cb p = 1 then (cV cb (cE cb (p + 1)) : Int) else -1) → Qr r (mH (xb_L h mm 91 y) F mm v')) : w_M_leastRead mm (mH h F mm v) Qr := by
  obtain ⟨l1, p1, x, l2, l3⟩ := hl
  have hb := rC_b l2
  obtain ⟨E1, E2⟩ := rC_E l2
  have hq1 : p1 ≤ q := by
    rcases l3 with ⟨-, l3⟩ | ⟨-, y, l3⟩
    · omega
    · have := rC_b l3
      omega
  have L34 : ∀ (v2 : Nat → Int32) (y : Int64), ro v v2 p q e → v2 17 = 0 → y.toInt = (if ub cb p = 1 then (cV cb (cE cb (p + 1)) : Int) else -1) → w_M_leastRead_L34 Qr x y mm (mH h F mm v2) := fun v2 y o2 z2 y1 => by
    unfold w_M_leastRead_L34
    refine ⟨hs.1, fun h2 e2 => ?_⟩
    subst e2
    exact hQ v2 x y o2 z2 (by rw [E2]; omega) y1
  unfold w_M_leastRead w_M_leastRead_L13
  refine ⟨hs.1, m_next_k hs hp hz (by omega) (fun v1 o1 z1 _ => ⟨fun hn => ⟨hs.1, m_count_k hs (o1.P hp) z1 l2 (by omega) (fun v2 o2 z2 _ => ⟨fun _ => ?_, fun h9 => absurd rfl h9⟩)⟩, fun he => ⟨hs.1, m_count_k hs (o1.P hp) z1 l2 (by omega) (fun v2 o2 z2 _ => ⟨fun h9 => absurd h9 (by decide), fun _ => ?_⟩)⟩⟩)⟩
  · rcases l3 with ⟨-, l3⟩ | ⟨l4, -⟩
    · subst l3
      exact L34 v2 (-1) (o1.tr o2) z2 (by rw [if_neg hn]; decide)
    · exact absurd l4 hn
  · rcases l3 with ⟨l4, -⟩ | ⟨-, y, l3⟩
    · exact absurd he l4
    · have hby := rC_b l3
      exact m_count_k hs (o2.P (o1.P hp)) z2 l3 hq (fun v3 o3 z3 _ => L34 v3 y (o1.tr (o2.tr o3)) z3 (by rw [if_pos he, E1, (rC_E l3).2]; omega))
/-- the host's name stands there -/
def hsR (A : Nat → Nat) (F : Nat → Nat → Int32) (o : Nat) (n : Int32) : Prop := n = 4 ∧ F (A 3) o = 104 ∧ F (A 3) (o + 1) = 111 ∧ F (A 3) (o + 2) = 115 ∧ F (A 3) (o + 3) = 116
/-- what the host has of that name -/
def hoC (D : zM) (p : Nat) : Int32 := if cV (qc D) p = 1 then ub (qc D) (cE (qc D) p) else 0
def hoH (c : Int32) : Int := if c = 105 then 0 else if c = 108 then 1 else if c = 102 then 2 else if c = 100 then 3 else -1
def hoV (D : zM) (p : Nat) (x2 r : Int32) : Prop := (hoH (hoC D p) < 0 ∧ r = -42) ∨ (0 ≤ hoH (hoC D p) ∧ ((x2 = 0 ∧ r.toInt = 100000 + hoH (hoC D p)) ∨ (x2 ≠ 0 ∧ r = -43)))
/-- the name k is this one; the latest of that name -/
def inS (A : Nat → Nat) (F : Nat → Nat → Int32) (o n k : Nat) : Prop := (F (A 40) k).toInt = n ∧ ∀ t, t < n → F (A 3) ((F (A 39) k).toInt.toNat + t) = F (A 3) (o + t)
def inR (A : Nat → Nat) (F : Nat → Nat → Int32) (nn o n : Nat) (r : Int32) : Prop := (r = -1 ∧ ∀ k, k < nn → ¬ inS A F o n k) ∨ ∃ k : Nat, k < nn ∧ inS A F o n k ∧ (∀ j, k < j → j < nn → ¬ inS A F o n j) ∧ r = F (A 41) k
/-- limits fit -/
def lsM (cb : Nat → Int32) (p : Nat) : Int := if ub cb p = 1 then (cV cb (cE cb (p + 1)) : Int) else -1
def lmS (has gr least most : Int) : Prop := least ≤ has ∧ (most < 0 ∨ (0 ≤ gr ∧ gr ≤ most))
/-- what was found fits the import -/
def fiS (A : Nat → Nat) (h : xb_H) (F : Nat → Nat → Int32) (DM : Nat → zM) (D : zM) (k g : Nat) : Prop :=
  ((ub (qc D) (kpo D k)).toInt = 0 → fPl (fun k => F (A k)) DM g = ptl (qc D) (tPa D (cV (qc D) (kpo D k + 1))) (tPn D (cV (qc D) (kpo D k + 1))) ∧ fRt (fun k => F (A k)) DM g = tRt D (cV (qc D) (kpo D k + 1))) ∧
  ((ub (qc D) (kpo D k)).toInt = 1 → lmS (F (A 49) g).toInt (xb_l h (A 50) g).toInt (cV (qc D) (kpo D k + 2 + 1)) (lsM (qc D) (kpo D k + 2))) ∧
  ((ub (qc D) (kpo D k)).toInt = 2 → lmS (F (A 54) g).toInt (xb_l h (A 55) g).toInt (cV (qc D) (kpo D k + 1 + 1)) (lsM (qc D) (kpo D k + 1))) ∧
  ((ub (qc D) (kpo D k)).toInt = 3 → F (A 59) g = ub (qc D) (kpo D k + 1) ∧ F (A 60) g = (if ub (qc D) (kpo D k + 2) = 1 then 1 else 0))
theorem m_isHost {x1 x2 : Int32} {o : Nat} (hB : mB own mm A h) (h1 : x1.toInt = o) (ho : x2 = 4 → o + 4 ≤ 16384) (hQ : ∀ r : Int32, (r = 0 ∧ ¬ hsR A F o x2) ∨ (r = 1 ∧ hsR A F o x2) → Qr r (mH h F mm v)) : w_M_isHost mm x1 x2 (mH h F mm v) Qr := by
  obtain ⟨a1, a2, a3, a4⟩ := hB.kx (k := 3) (kd := 100) (n := 16384) (by decide) (by decide)
  unfold w_M_isHost w_M_isHost_L59 w_M_isHost_L60
  refine ⟨fun hn => ⟨.inl rfl, hQ 0 (.inl ⟨rfl, fun h9 => hn h9.1⟩)⟩, fun e => ?_⟩
  have ho' := ho e
  have c0 : xb_i (mH h F mm v) (A 3) x1.toNatClampNeg = F (A 3) o := by rw [mH_o a4, z_cl, h1, Int.toNat_natCast]
  have cn : ∀ (c : Int32) (n : Nat), c.toInt = n → n < 4 → xb_i (mH h F mm v) (A 3) (x1 + c).toNatClampNeg = F (A 3) (o + n) := fun c n hc hn => by rw [mH_o a4, z_cl, z_ad2 h1 hc (by omega) (by omega), Int.toNat_natCast]
  have inn : ∀ (c : Int32) (n : Nat), c.toInt = n → n < 4 → vp_in (x1 + c) (xb_n (mH h F mm v) (A 3)) := fun c n hc hn => by
    rw [z_in, z_ad2 h1 hc (by omega) (by omega)]
    show _ ∧ _ < ((xb_n h (A 3) : Nat) : Int)
    omega
  refine ⟨hB.2.1, A 3, a1, a2, ?_, ?_⟩
  rotate_left
  · have k1 := cn 1 1 rfl (by decide)
    have k2 := cn 2 2 rfl (by decide)
    have k3 := cn 3 3 rfl (by decide)
    exact ⟨fun hn => ⟨.inl rfl, hQ 0 (.inl ⟨rfl, fun h9 => hn (c0.trans h9.2.1)⟩)⟩, fun q0 => ⟨A 3, a1, a2, inn 1 1 rfl (by decide), fun hn => ⟨.inl rfl, hQ 0 (.inl ⟨rfl, fun h9 => hn (k1.trans h9.2.2.1)⟩)⟩, fun q1 => ⟨A 3, a1, a2, inn 2 2 rfl (by decide), fun hn => ⟨.inl rfl, hQ 0 (.inl ⟨rfl, fun h9 => hn (k2.trans h9.2.2.2.1)⟩)⟩, fun q2 => ⟨A 3, a1, a2, inn 3 3 rfl (by decide), fun hn => ⟨.inl rfl, hQ 0 (.inl ⟨rfl, fun h9 => hn (k3.trans h9.2.2.2.2)⟩)⟩, fun q3 => ⟨.inr rfl, hQ 1 (.inr ⟨rfl, e, c0.symm.trans q0, k1.symm.trans q1, k2.symm.trans q2, k3.symm.trans q3⟩)⟩⟩⟩⟩⟩
  rw [z_in, h1]
  show _ ∧ _ < ((xb_n h (A 3) : Nat) : Int)
  omega
theorem m_ofHost {x1 x2 x3 : Int32} {p q : Nat} (hX : mX own mm A h F m D) (hz : v 17 = 0) (h1 : x1.toInt = m) (h3 : x3.toInt = p) (hp : qb D ≤ p) (hN : rN (qc D) p q) (hq : q ≤ qe D) (hQ : ∀ (v' : Nat → Int32) (r : Int32), vg v v' → v' 17 = 0 → r.toInt < 0 ∨ (x2 = 0 ∧ ∃ f : Nat, r.toInt = f ∧ 100000 ≤ f ∧ f < 100004) → hoV D p x2 r → Qr r (mH h F mm v')) : w_M_ofHost mm x1 x2 x3 (mH h F mm v) Qr := by
  have hB := hX.1
  obtain ⟨a1, a2, a3, a4⟩ := hB.kx (k := 3) (kd := 100) (n := 16384) (by decide) (by decide)
  obtain ⟨p1, nn, c1, c2, c3⟩ := id hN
  have rb := rC_b c1
  obtain ⟨b1, b2, b3⟩ := rN_b hN c1
  have hE := hX.2.2.2.2.1
  unfold w_M_ofHost
  refine ⟨hB.2.1, m_go_k hX hz h1 h3 hp (by omega) (fun v1 k1 _ => m_count_k hX.rd k1.2.2.1 k1.2.2.2 c1 (by omega) (fun v2 o2 z2 _ v6 e6 => ?_))⟩
  have G2 := k1.1.tr o2.vg
  have L83 : ∀ (y0 : Int32) (n : Nat), (y0.toInt = -1 ∨ (y0.toInt = n ∧ n < 4)) → hoH (hoC D p) = y0.toInt → w_M_ofHost_L83 Qr x2 y0 (mH h F mm v2) := fun y0 n hy hh => by
    unfold w_M_ofHost_L83 w_M_ofHost_L108
    refine ⟨fun hp => ⟨fun ne => hQ v2 _ G2 z2 (.inl (by decide)) (.inr ⟨by rw [hh]; exact z_le.mp hp, .inr ⟨ne, rfl⟩⟩), fun e2 => hQ v2 _ G2 z2 (.inr ⟨e2, 100000 + n, ?_, by omega, ?_⟩) (.inr ⟨by rw [hh]; exact z_le.mp hp, .inl ⟨e2, ?_⟩⟩)⟩, fun hp => hQ v2 _ G2 z2 (.inl (by decide)) (.inl ⟨by rw [hh]; rw [z_le] at hp; simp only [Int32.reduceToInt] at hp; omega, rfl⟩)⟩
    · rw [z_le] at hp
      simp only [Int32.reduceToInt] at hp
      rcases hy with hy | ⟨hy, hn⟩
      · omega
      · rw [z_add, hy]
        simp only [Int32.reduceToInt]
        omega
    · rw [z_le] at hp
      simp only [Int32.reduceToInt] at hp
      omega
    · rw [hh, z_add]
      simp only [Int32.reduceToInt]
      omega
  have L36 : ∀ y0 : Int32, hoC D p = y0 → w_M_ofHost_L36 Qr x2 y0 (mH h F mm v2) := fun y0 hc => by
    unfold w_M_ofHost_L36
    rw [hc] at L83
    unfold hoH at L83
    exact ⟨fun n1 => ⟨fun n2 => ⟨fun n3 => ⟨fun n4 => L83 (-1) 0 (.inl (by decide)) (by rw [if_neg n1, if_neg n2, if_neg n3, if_neg n4]; rfl), fun e4 => L83 3 3 (.inr (by decide)) (by rw [if_neg n1, if_neg n2, if_neg n3, if_pos e4]; rfl)⟩, fun e3 => L83 2 2 (.inr (by decide)) (by rw [if_neg n1, if_neg n2, if_pos e3]; rfl)⟩, fun e2 => L83 1 1 (.inr (by decide)) (by rw [if_neg n1, if_pos e2]; rfl)⟩, fun e1 => L83 0 0 (.inr (by decide)) (by rw [if_pos e1]; rfl)⟩
  obtain ⟨E1, E2⟩ := rC_E c1
  have en : v6 = 1 ↔ nn.toInt.toNat = 1 := by
    rw [e6, z_eq, z_of64]
    simp only [Int32.reduceToInt]
    omega
  refine ⟨fun hn => L36 0 (by unfold hoC; rw [if_neg (by rw [E2]; exact mt en.mpr hn)]), fun e1 => ⟨A 3, a1, a2, ?_, L36 _ ?_⟩⟩
  rotate_left
  · unfold hoC ub
    rw [if_pos (by rw [E2]; exact en.mp e1), mH_o a4, mH_i, z_cl, o2.2.1, Int.toNat_natCast, hX.2.1.2.2.2.1 p1 (by omega) (by have := en.mp e1; omega), E1]
  rw [z_in, mH_i, o2.2.1]
  show _ ∧ _ < ((xb_n h (A 3) : Nat) : Int)
  have : nn.toInt = 1 := by
    rw [e6] at e1
    have h9 : (Int64.toInt32 nn).toInt = 1 := by rw [e1]; rfl
    rw [z_of64] at h9
    omega
  omega
theorem m_instanceNamed {x1 x2 : Int32} {o n : Nat} (hA : rA own mm A h F v DM len rl K) (h1 : x1.toInt = o) (h2 : x2.toInt = n) (ho : o + n ≤ 16384) (hQ : ∀ r : Int32, r = -1 ∨ (∃ i : Nat, r.toInt = i ∧ i < vN v 30) → inR A F (vN v 42) o n r → Qr r (mH h F mm v)) : w_M_instanceNamed mm x1 x2 (mH h F mm v) Qr := by
  have hB := hA.B
  obtain ⟨a1, a2, a3, a4⟩ := hB.kx (k := 3) (kd := 100) (n := 16384) (by decide) (by decide)
  obtain ⟨b1, b2, b3, b4⟩ := hB.kx (k := 40) (kd := 102) (n := 4100) (by decide) (by decide)
  obtain ⟨c1, c2, c3, c4⟩ := hB.kx (k := 39) (kd := 102) (n := 4100) (by decide) (by decide)
  obtain ⟨d1, d2, d3, d4⟩ := hB.kx (k := 41) (kd := 102) (n := 4100) (by decide) (by decide)
  obtain ⟨n42, n42'⟩ := hA.n (k := 42) (b := 512) (by decide)
  have n4 := (hA.n (k := 4) (b := 10240) (by decide)).2
  have w7 := hA.w4.2.2.2.2.2.2
  have key : ∀ (nf : Nat) (x3 : Int32), x3.toInt = (nf : Int) - 1 → nf ≤ vN v 42 → (∀ j, nf ≤ j → j < vN v 42 → ¬ inS A F o n j) → w_M_instanceNamed_L7 Qr (nf + 1) mm x1 x2 x3 (mH h F mm v) := by
    intro nf
    induction nf with
    | zero =>
      intro x3 hx hk hno
      unfold w_M_instanceNamed_L7
      refine ⟨fun _ => hQ _ (.inl rfl) (.inl ⟨rfl, fun k hk9 => hno k (Nat.zero_le _) hk9⟩), fun hle => ?_⟩
      rw [z_lt, hx] at hle
      simp only [Int32.reduceToInt] at hle
      omega
    | succ nf ih =>
      intro x3 hx hk hno
      have hx' : x3.toInt = nf := by omega
      obtain ⟨nfr, ns, no, y1, y2, y3, y4, y5⟩ := w7 nf (by omega)
      have c3' : x3.toNatClampNeg = nf := by rw [z_cl, hx']; omega
      have in3 : ∀ a, xb_n h a = 4100 → vp_in x3 (xb_n (mH h F mm v) a) := fun a ha => by
        rw [z_in, hx']
        show _ ∧ _ < ((xb_n h a : Nat) : Int)
        omega
      have y1' : (F (A 39) nf).toInt = nfr := y1
      have y2' : (F (A 40) nf).toInt = ns := y2
      have L81 : ∀ x4 : Int32, ((x4 = 0 ∧ ¬ inS A F o n nf) ∨ (x4 = 1 ∧ inS A F o n nf)) → w_M_instanceNamed_L81 (w_M_instanceNamed_L7 Qr (nf + 1)) Qr mm x1 x2 x3 x4 (mH h F mm v) := fun x4 hx4 => by
        unfold w_M_instanceNamed_L81
        refine ⟨fun e0 => ih (x3 + (-1)) ?_ (by omega) (fun j j1 j2 => ?_), fun n0 => ⟨hB.2.1, A 41, d1, d2, in3 _ d3, hQ _ (.inr ⟨no, ?_, y5⟩) (.inr ⟨nf, by omega, ?_, fun j j1 j2 => hno j (by omega) j2, by rw [mH_o d4, c3']⟩)⟩⟩
        rotate_left
        · rcases Nat.lt_or_ge nf j with h9 | h9
          · exact hno j (by omega) j2
          · rw [show j = nf by omega]
            rcases hx4 with ⟨-, h8⟩ | ⟨h8, -⟩
            · exact h8
            · rw [h8] at e0
              exact absurd e0 (by decide)
        rotate_left
        · rcases hx4 with ⟨h8, -⟩ | ⟨-, h8⟩
          · exact absurd h8 n0
          · exact h8
        · rw [z_add, hx', show (-1 : Int32).toInt = -1 from rfl]
          omega
        · rw [mH_o d4, c3']
          exact y3
      have inner : ∀ (mf k : Nat) (x4 x5 : Int32), n - k ≤ mf → x5.toInt = k → k ≤ n → ((x4 = 0 ∧ ¬ inS A F o n nf) ∨ (x4 = 1 ∧ ns = n ∧ ∀ t, t < k → F (A 3) (nfr + t) = F (A 3) (o + t))) → w_M_instanceNamed_L31 (w_M_instanceNamed_L7 Qr (nf + 1)) Qr (mf + 1) mm x1 x2 x3 x4 x5 (mH h F mm v) := by
        have full : ∀ (k : Nat) (x4 : Int32), k = n → ((x4 = 0 ∧ ¬ inS A F o n nf) ∨ (x4 = 1 ∧ ns = n ∧ ∀ t, t < k → F (A 3) (nfr + t) = F (A 3) (o + t))) → ((x4 = 0 ∧ ¬ inS A F o n nf) ∨ (x4 = 1 ∧ inS A F o n nf)) := fun k x4 hk h9 => h9.imp id (fun ⟨a, b, c⟩ => ⟨a, by rw [y2', b], by rw [hk] at c; rw [y1', Int.toNat_natCast]; exact c⟩)
        intro mf
        induction mf with
        | zero =>
          intro k x4 x5 hn h5 hk' h4
          unfold w_M_instanceNamed_L31
          refine ⟨fun _ => L81 x4 (full k x4 (by omega) h4), fun hle => ?_⟩
          rw [z_le, h2, h5] at hle
          omega
        | succ mf ihm =>
          intro k x4 x5 hn h5 hk' h4
          unfold w_M_instanceNamed_L31
          refine ⟨fun hle => L81 x4 (full k x4 (by rw [z_le, h2, h5] at hle; omega) h4), fun hle => ⟨fun h0 => L81 x4 (h4.elim .inl (fun h => absurd (h0.symm.trans h.1) (by decide))), fun hn0 => ?_⟩⟩
          rw [z_le, h2, h5] at hle
          obtain ⟨-, ens, eqs⟩ := h4.elim (fun e => absurd e.1 hn0) id
          have e1 : (xb_i (mH h F mm v) (A 39) x3.toNatClampNeg + x5).toInt = (nfr + k : Nat) := by
            rw [mH_o c4, c3']
            exact z_ad2 y1 h5 (by omega) (by omega)
          have e2 : (x1 + x5).toInt = (o + k : Nat) := z_ad2 h1 h5 (by omega) (by omega)
          refine ⟨hB.2.1, A 3, a1, A 39, c1, c2, in3 _ c3, a2, ?_, A 3, a1, a2, ?_, fun hne => ?_, fun heq => ?_⟩
          · rw [z_in, e1]
            show _ ∧ _ < ((xb_n h (A 3) : Nat) : Int)
            omega
          · rw [z_in, e2]
            show _ ∧ _ < ((xb_n h (A 3) : Nat) : Int)
            omega
          · unfold w_M_instanceNamed_L73
            refine ihm (k + 1) 0 (x5 + 1) (by omega) (z_inc h5 (by omega)) (by omega) (.inl ⟨rfl, fun hS => hne ?_⟩)
            rw [mH_o a4, z_cl, e1, z_cl, e2, Int.toNat_natCast, Int.toNat_natCast]
            have := hS.2 k (by omega)
            rw [y1', Int.toNat_natCast] at this
            exact this
          · unfold w_M_instanceNamed_L73
            refine ihm (k + 1) 1 (x5 + 1) (by omega) (z_inc h5 (by omega)) (by omega) (.inr ⟨rfl, ens, fun t ht => ?_⟩)
            rcases Nat.lt_or_ge t k with h9 | h9
            · exact eqs t h9
            · rw [mH_o a4, z_cl, e1, z_cl, e2, Int.toNat_natCast, Int.toNat_natCast] at heq
              rw [show t = k by omega]
              exact heq
      unfold w_M_instanceNamed_L7 w_M_instanceNamed_L26
      refine ⟨fun hle => ?_, fun _ => ⟨hB.2.1, A 40, b1, b2, in3 _ b3, fun hne => ⟨n + 1, inner n 0 0 0 (by omega) rfl (by omega) (.inl ⟨rfl, fun hS => hne (z_eq.mpr (by rw [mH_o b4, c3', hS.1, h2]))⟩)⟩, fun e9 => ⟨n + 1, inner n 0 1 0 (by omega) rfl (by omega) (.inr ⟨rfl, ?_, fun t ht => absurd ht (Nat.not_lt_zero t)⟩)⟩⟩⟩
      · rw [z_lt, hx'] at hle
        simp only [Int32.reduceToInt] at hle
        omega
      · rw [mH_o b4, c3'] at e9
        have : (F (A 40) nf).toInt = ns := y2
        rw [e9, h2] at this
        omega
  unfold w_M_instanceNamed
  rw [mH_i]
  refine ⟨hB.2.1, fun v2 e2 => ⟨vN v 42 + 1, key (vN v 42) v2 ?_ (Nat.le_refl _) (fun j j1 j2 => by omega)⟩⟩
  rw [e2, z_sub, n42]
  simp only [Int32.reduceToInt]
  omega
/-- an import's type is one of the module's -/
theorem MV0.im (hV : MV0 D) (hk : k < qt D 2) (h0 : (ub (qc D) (kpo D k)).toInt = 0) : cV (qc D) (kpo D k + 1) < qt D 1 := by
  have h1 : kcn (qc D) (qp D 2) 0 k < iM D 0 := by
    have := kcn_mo (cb := qc D) (P2 := qp D 2) (κ := 0) (show k + 1 ≤ qt D 2 by omega)
    have e : kcn (qc D) (qp D 2) 0 (k + 1) = kcn (qc D) (qp D 2) 0 k + 1 := by
      show _ + (if (ub (qc D) (kpo D k)).toInt = ((0 : Nat) : Int) then 1 else 0) = _
      rw [if_pos (by rw [h0]; rfl)]
    unfold iM
    omega
  have h2 := ikx_u (D := D) (κ := 0) (n := qt D 2) hk (by rw [h0]; rfl) rfl
  have h3 := hV.2.1 (kcn (qc D) (qp D 2) 0 k) (by omega)
  unfold fty fpo at h3
  rw [if_pos h1, h2] at h3
  exact h3
theorem m_fits {x1 x2 x3 x4 : Int32} {g : Nat} (hA : rA own mm A h F v DM len rl K) (h1 : x1.toInt = m) (hm : m < vN v 5) (h2 : x2.toInt = k) (hk : k < qt (DM m) 2) (h3 : x3 = ub (qc (DM m)) (kpo (DM m) k)) (h4 : x4.toInt = g) (g0 : x3.toInt = 0 → fnO v g) (g1 : x3.toInt = 1 → g < vN v 46) (g2 : x3.toInt = 2 → g < vN v 52) (g3 : x3.toInt = 3 → g < vN v 58)
    (hQ : ∀ (v' : Nat → Int32) (h' : xb_H) (r : Int32), vg v v' → v' 17 = 0 → lq mm h h' → r = 0 ∨ rOK (fun k => F (A k)) v DM (DM m) k g → (r = 0 ∧ ¬ fiS A h F DM (DM m) k g) ∨ (r = 1 ∧ fiS A h F DM (DM m) k g) → Qr r (mH h' F mm v')) : w_M_fits mm x1 x2 x3 x4 (mH h F mm v) Qr := by
  have hB := hA.B
  have hX := hA.X hm
  have n46 := (hA.n (k := 46) (b := 24) (by decide)).2
  have n52 := (hA.n (k := 52) (b := 24) (by decide)).2
  have n58 := (hA.n (k := 58) (b := 4096) (by decide)).2
  have hV := hA.V hm
  obtain ⟨D, hD⟩ : ∃ D, D = DM m := ⟨_, rfl⟩
  rw [← hD] at hX hV hk h3 hQ
  obtain ⟨-, -, b1, b2, b3, b4, b5⟩ := id hX
  obtain ⟨c1, q, ⟨p1, p2, r1, r2, r3⟩, c3⟩ := (b4 2 (by decide)).2 k hk
  have hkp : kpo D k = p2 := by unfold kpo; rw [rN_E r1, rN_E r2]
  have lit : ∀ c : Int32, x3 = c ↔ x3.toInt = c.toInt := fun c => z_eq
  have cl4 : x4.toNatClampNeg = g := by rw [z_cl, h4]; omega
  unfold w_M_fits
  refine ⟨hB.2.1, m_importAt hX hA.z h1 h2 hk (fun v1 k1 _ => ⟨fun n0 => ⟨fun n3 => ?_, fun e3 => ?_⟩, fun e0 => ?_⟩)⟩
  · -- a table or a memory
    have tail : ∀ (y0 : Int32) (p : Nat), y0.toInt = p → qb D ≤ p → rLim (qc D) p q → ((x3 = 1 ∧ p = kpo D k + 2) ∨ (x3 = 2 ∧ p = kpo D k + 1)) → w_M_fits_L99 Qr mm x3 x4 y0 mm (mH h F mm v1) := by
      intro y0 p hy hp hl hxp
      have hx3 : x3 = 1 ∨ x3 = 2 := hxp.imp And.left And.left
      have hb := rLim_b hl
      have c9 : x3 ≠ 0 ∧ x3 ≠ 3 := by rcases hx3 with e | e <;> rw [e] <;> decide
      unfold w_M_fits_L99
      refine ⟨hB.2.1, fun h2' e2' => ?_⟩
      rw [mH_I] at e2'
      subst e2'
      refine ⟨hB.2.1, x_leastRead hX.rd (p := p) (q := q) ⟨by rw [xh_up, if_pos rfl]; exact hy, by rw [xh_up, if_neg (by decide)]; exact k1.2.2.1.2.1, hp, by omega⟩ (by rw [xh_up, if_neg (by decide)]; exact k1.2.2.2) hl c3 (fun v2 r y o2 z2 rL yM _ => ?_)⟩
      have G2 : vg v v2 := fun j j1 j2 j3 j4 j5 => by rw [o2.vg j j1 j2 j3 j4 j5, xh_up, if_neg j2]; exact k1.1 j j1 j2 j3 j4 j5
      have ok : ∀ (r : Int32), ((r = 0 ∧ ¬ fiS A h F DM D k g) ∨ (r = 1 ∧ fiS A h F DM D k g)) → (r = 0 ∨ r = 1) ∧ Qr r (mH (xb_L h mm 91 y) F mm v2) := fun r hr => ⟨hr.imp And.left And.left, hQ v2 _ r G2 z2 lq.L (.inr ⟨fun h9 => ?_, fun h9 => ?_, fun h9 => ?_, fun h9 => ?_⟩) hr⟩
      · have L156 : ∀ (x7 y0 : Int64), (fiS A h F DM D k g ↔ lmS x7.toInt y0.toInt r.toInt y.toInt) → w_M_fits_L156 Qr mm r x7 y0 (mH (xb_L h mm 91 y) F mm v2) := fun x7 y0 hiff => by
          have e91 : xb_l (mH (xb_L h mm 91 y) F mm v2) mm 91 = y := by
            rw [show xb_l (mH (xb_L h mm 91 y) F mm v2) = va_up (xb_l h) mm (va_up (xb_l h mm) 91 y) from rfl, xh_up, if_pos rfl, xh_up, if_pos rfl]
          unfold w_M_fits_L156 w_M_fits_L192 w_M_fits_L196 w_M_fits_L197
          rw [e91]
          have e0 : (0 : Int64).toInt = 0 := rfl
          unfold lmS at hiff
          refine ⟨fun a => ok 0 (.inl ⟨rfl, fun h9 => ?_⟩), fun a => ⟨hB.2.1, fun b => ok 1 (.inr ⟨rfl, hiff.mpr ?_⟩), fun b => ⟨fun c => ok 0 (.inl ⟨rfl, fun h9 => ?_⟩), fun c => ⟨fun d => ok 0 (.inl ⟨rfl, fun h9 => ?_⟩), fun d => ok 1 (.inr ⟨rfl, hiff.mpr ?_⟩)⟩⟩⟩⟩
          · have := hiff.mp h9
            rw [Z_lt] at a
            omega
          · rw [Z_lt] at a
            rw [Z_lt, e0] at b
            omega
          · have := hiff.mp h9
            rw [Z_lt, e0] at b c
            omega
          · have := hiff.mp h9
            rw [Z_lt, e0] at b c
            rw [Z_lt] at d
            omega
          · rw [Z_lt] at a d
            rw [Z_lt, e0] at b c
            omega
        have hg : (x3 = 1 → g < 24) ∧ (x3 ≠ 1 → g < 24) := ⟨fun e => by have := g1 (by rw [e]; rfl); omega, fun e => by
          have e2 : x3 = 2 := hx3.elim (fun h => absurd h e) id
          have := g2 (by rw [e2]; rfl)
          omega⟩
        have inn : ∀ a, xb_n h a = 24 → vp_in x4 (xb_n (mH (xb_L h mm 91 y) F mm v2) a) := fun a ha => by
          rw [z_in, h4]
          show _ ∧ _ < ((xb_n h a : Nat) : Int)
          rcases hx3 with e | e
          · have := hg.1 e
            omega
          · have := hg.2 (by rw [e]; decide)
            omega
        obtain ⟨a1, a2, a3, a4⟩ := hB.kx (k := 54) (kd := 102) (n := 24) (by decide) (by decide)
        obtain ⟨d1, d2, d3, d4⟩ := hB.kx (k := 49) (kd := 102) (n := 24) (by decide) (by decide)
        obtain ⟨e1, e2, e3, e4⟩ := hB.kx (k := 55) (kd := 103) (n := 24) (by decide) (by decide)
        obtain ⟨f1, f2, f3, f4⟩ := hB.kx (k := 50) (kd := 103) (n := 24) (by decide) (by decide)
        unfold w_M_fits_L132
        have xlm : ∀ j, (∃ e ∈ aL, e.1 = j) → xb_l (mH (xb_L h mm 91 y) F mm v2) (A j) = xb_l h (A j) := fun j hj => by
          rw [show xb_l (mH (xb_L h mm 91 y) F mm v2) = va_up (xb_l h) mm (va_up (xb_l h mm) 91 y) from rfl, xh_up, if_neg (hB.nm hj)]
        have yM' : y.toInt = lsM (qc D) p := yM
        refine ⟨fun n1 => ⟨A 54, a1, a2, inn _ a3, fun _ => ⟨hB.2.1, A 55, e1, e2, inn _ e3, L156 _ _ ?_⟩, fun h9 => absurd h9 n1⟩, fun e9 => ⟨A 49, d1, d2, inn _ d3, fun h9 => absurd e9 h9, fun _ => ⟨hB.2.1, A 50, f1, f2, inn _ f3, L156 _ _ ?_⟩⟩⟩
        · obtain ⟨ex2, ep⟩ : x3 = 2 ∧ p = kpo D k + 1 := hxp.resolve_left (fun h => n1 h.1)
          have hk2 : (ub (qc D) (kpo D k)).toInt = 2 := by rw [← h3, ex2]; rfl
          rw [Z_of32, mH_o a4, cl4, xlm 55 (by decide), rL, yM', ep]
          unfold fiS
          rw [hk2]
          exact ⟨fun h9 => h9.2.2.1 rfl, fun h9 => ⟨fun e => by omega, fun e => by omega, fun _ => h9, fun e => by omega⟩⟩
        · obtain ⟨ex1, ep⟩ : x3 = 1 ∧ p = kpo D k + 2 := hxp.resolve_right (fun h => by rw [e9] at h; exact absurd h.1 (by decide))
          have hk2 : (ub (qc D) (kpo D k)).toInt = 1 := by rw [← h3, ex1]; rfl
          rw [Z_of32, mH_o d4, cl4, xlm 50 (by decide), rL, yM', ep]
          unfold fiS
          rw [hk2]
          exact ⟨fun h9 => h9.2.1 rfl, fun h9 => ⟨fun e => by omega, fun _ => h9, fun e => by omega, fun e => by omega⟩⟩
      · rw [← h3] at h9
        exact absurd ((lit 0).mpr h9) c9.1
      · rw [← h3] at h9
        exact ⟨g, rfl, g1 h9⟩
      · rw [← h3] at h9
        exact ⟨g, rfl, g2 h9⟩
      · rw [← h3] at h9
        exact absurd ((lit 3).mpr h9) c9.2
    rw [mH_i]
    have P1 := k1.2.2.1
    rw [hkp] at P1
    have P2 := P1.2.2.1
    have P3 := P1.2.2.2
    rcases r3 with ⟨r3, -⟩ | ⟨r3, r4⟩ | ⟨r3, r4⟩ | ⟨r3, -⟩
    · exact absurd (by rw [h3, hkp]; exact r3) n0
    · have e1 : x3 = 1 := by rw [h3, hkp]; exact r3
      refine ⟨fun h9 => absurd e1 h9, fun _ => tail _ (p2 + 2) (z_inc P1.1 (by omega)) (by omega) r4.2 (.inl ⟨e1, by rw [hkp]⟩)⟩
    · have e1 : x3 = 2 := by rw [h3, hkp]; exact r3
      refine ⟨fun _ => tail _ (p2 + 1) P1.1 (by omega) r4 (.inr ⟨e1, by rw [hkp]⟩), fun h9 => ?_⟩
      rw [e1] at h9
      exact absurd h9 (by decide)
    · exact absurd (by rw [h3, hkp]; exact r3) n3
  · -- a variable
    have rv : rVar (qc D) (p2 + 1) q := by
      have e3' : ub (qc D) p2 = 3 := by rw [← hkp, ← h3]; exact e3
      rcases r3 with ⟨r3, -⟩ | ⟨r3, -⟩ | ⟨r3, -⟩ | ⟨-, r4⟩
      · rw [e3'] at r3; exact absurd r3 (by decide)
      · rw [e3'] at r3; exact absurd r3 (by decide)
      · rw [e3'] at r3; exact absurd r3 (by decide)
      · exact r4
    have eq2 := rv.2.2
    have P1 := k1.2.2.1
    rw [hkp] at P1
    have P2 := P1.2.2.1
    have P3 := P1.2.2.2
    have hg := g3 (by rw [e3]; rfl)
    obtain ⟨a1, a2, a3, a4⟩ := hB.kx (k := 59) (kd := 102) (n := 4096) (by decide) (by decide)
    obtain ⟨d1, d2, d3, d4⟩ := hB.kx (k := 60) (kd := 101) (n := 4096) (by decide) (by decide)
    refine m_next_k hX.rd P1 k1.2.2.2 (by omega) (fun v2 o2 z2 _ => m_next_k hX.rd (o2.P P1) z2 (by omega) (fun v3 o3 z3 _ => ?_))
    have G3 := (k1.1.tr o2.vg).tr o3.vg
    have hk3 : (ub (qc D) (kpo D k)).toInt = 3 := by rw [← h3, e3]; rfl
    have fi : fiS A h F DM D k g ↔ F (A 59) g = ub (qc D) (p2 + 1) ∧ F (A 60) g = (if ub (qc D) (p2 + 2) = 1 then 1 else 0) := by
      unfold fiS
      rw [hk3, hkp]
      exact ⟨fun h9 => h9.2.2.2 rfl, fun h9 => ⟨fun e => by omega, fun e => by omega, fun e => by omega, fun _ => h9⟩⟩
    have L48 : ∀ y0 : Int32, y0 = (if ub (qc D) (p2 + 2) = 1 then 1 else 0) → w_M_fits_L48 Qr mm x4 (ub (qc D) (p2 + 1)) y0 (mH h F mm v3) := fun y0 hy0 => by
      unfold w_M_fits_L48 w_M_fits_L78 w_M_fits_L79
      refine ⟨hB.2.1, A 59, a1, a2, ?_, fun hne => ⟨.inl rfl, hQ v3 h 0 G3 z3 lq.rf (.inl rfl) (.inl ⟨rfl, fun h9 => hne (by rw [mH_o a4, cl4]; exact (fi.mp h9).1)⟩)⟩, fun ey => ⟨A 60, d1, d2, ?_, fun hne => ⟨.inl rfl, hQ v3 h 0 G3 z3 lq.rf (.inl rfl) (.inl ⟨rfl, fun h9 => hne (by rw [mH_o d4, cl4, hy0]; exact (fi.mp h9).2)⟩)⟩, fun ez => ⟨.inr rfl, hQ v3 h 1 G3 z3 lq.rf (.inr ⟨fun h9 => ?_, fun h9 => ?_, fun h9 => ?_, fun h9 => ⟨g, rfl, hg, ?_⟩⟩) (.inr ⟨rfl, fi.mpr ⟨by rw [mH_o a4, cl4] at ey; exact ey, by rw [mH_o d4, cl4, hy0] at ez; exact ez⟩⟩)⟩⟩⟩
      · rw [z_in, h4]
        show _ ∧ _ < ((xb_n h (A 59) : Nat) : Int)
        omega
      · rw [z_in, h4]
        show _ ∧ _ < ((xb_n h (A 60) : Nat) : Int)
        omega
      · rw [← h3, e3] at h9
        exact absurd h9 (by decide)
      · rw [← h3, e3] at h9
        exact absurd h9 (by decide)
      · rw [← h3, e3] at h9
        exact absurd h9 (by decide)
      · rw [mH_o a4, cl4] at ey
        show (F (A 59) g).toInt = _
        rw [ey, hkp]
    exact ⟨fun e => L48 0 (by rw [if_neg e]), fun e => L48 1 (by rw [if_pos e])⟩
  · -- a function
    have rx : ∃ x, rC (qc D) (p2 + 1) = some (q, x) := by
      have e3' : ub (qc D) p2 = 0 := by rw [← hkp, ← h3]; exact e0
      rcases r3 with ⟨-, r4⟩ | ⟨r3, -⟩ | ⟨r3, -⟩ | ⟨r3, -⟩
      · exact r4
      · rw [e3'] at r3; exact absurd r3 (by decide)
      · rw [e3'] at r3; exact absurd r3 (by decide)
      · rw [e3'] at r3; exact absurd r3 (by decide)
    obtain ⟨x, rx⟩ := rx
    have P1 := k1.2.2.1
    rw [hkp] at P1
    have P2 := P1.2.2.1
    have P3 := P1.2.2.2
    have rb := rC_b rx
    have h0 : (ub (qc D) (kpo D k)).toInt = 0 := by rw [← h3, e0]; rfl
    have ht := hV.im hk h0
    have bq := (b4 1 (by decide)).1
    have eC : cV (qc D) (kpo D k + 1) = x.toInt.toNat := by rw [hkp]; exact (rC_E rx).2
    have ex : (Int64.toInt32 x).toInt = (cV (qc D) (kpo D k + 1) : Nat) := by
      rw [z_of64, eC]
      rw [eC] at ht
      omega
    refine m_count_k hX.rd P1 k1.2.2.2 rx c3 (fun v2 o2 z2 _ => ?_)
    have G2 := k1.1.tr o2.vg
    have A2 := hA.vg G2 z2
    have o2' : fnO v2 g := by
      have := g0 (by rw [e0]; rfl)
      unfold fnO vN at *
      rw [G2 43 (by decide) (by decide) (by decide) (by decide) (by decide)]
      exact this
    rw [hD] at ex ht
    have fi : fiS A h F DM D k g ↔ fPl (fun k => F (A k)) DM g = ptl (qc D) (tPa D (cV (qc D) (kpo D k + 1))) (tPn D (cV (qc D) (kpo D k + 1))) ∧ fRt (fun k => F (A k)) DM g = tRt D (cV (qc D) (kpo D k + 1)) := by
      unfold fiS
      rw [h0]
      exact ⟨fun h9 => h9.1 rfl, fun h9 => ⟨fun _ => h9, fun e => by omega, fun e => by omega, fun e => by omega⟩⟩
    rw [hD] at fi
    rw [hD] at hQ
    refine m_hasTypeE A2 h4 o2' h1 (by unfold vN at *; rw [G2 5 (by decide) (by decide) (by decide) (by decide) (by decide)]; exact hm) ex ht (fun v3 r g3' z3 hr _ => ⟨hr.imp And.left (fun h => h.1), hQ v3 h r (G2.tr g3') z3 lq.rf (hr.imp And.left (fun ⟨_, y1, y2⟩ => ⟨fun _ => ⟨g, rfl, g0 (by rw [e0]; rfl), y1, y2⟩, fun h9 => ?_, fun h9 => ?_, fun h9 => ?_⟩)) (hr.imp (fun ⟨a, b⟩ => ⟨a, fun h9 => b (fi.mp h9)⟩) (fun ⟨a, b⟩ => ⟨a, fi.mpr b⟩))⟩)
    · rw [hD] at h0; rw [h0] at h9; omega
    · rw [hD] at h0; rw [h0] at h9; omega
    · rw [hD] at h0; rw [h0] at h9; omega
/-- what an import is given, ahead of being looked at; a refusal's number below 0 -/
def foI (A : Nat → Nat) (F : Nat → Nat → Int32) (DM : Nat → zM) (v : Nat → Int32) (D : zM) (k : Nat) (is : Int32) : Prop :=
  ∃ (o1 o2 n1 n2 : Nat) (x : Int32), o1 = cE (qc D) (qp D 2 k) ∧ n1 = cV (qc D) (qp D 2 k) ∧ x.toInt = n1 ∧ o2 = cE (qc D) (o1 + n1) ∧ n2 = cV (qc D) (o1 + n1) ∧
  ((hsR A F o1 x ∧ hoV D (o1 + n1) (ub (qc D) (kpo D k)) is) ∨ (¬ hsR A F o1 x ∧ ∃ i : Int32, inR A F (vN v 42) o1 n1 i ∧ ((i = -1 ∧ is = -41) ∨ ∃ iN mo : Nat, i.toInt = iN ∧ (F (A 31) iN).toInt = mo ∧ ∃ e : Int32, rxN (DM mo) (F (A 3)) o2 n2 e ∧ ((e = -1 ∧ is = -42) ∨ ∃ ke : Nat, e.toInt = ke ∧ ((ub (qc (DM mo)) (xko (DM mo) ke) ≠ ub (qc D) (kpo D k) ∧ is = -43) ∨ (ub (qc (DM mo)) (xko (DM mo) ke) = ub (qc D) (kpo D k) ∧ is.toInt = mnV A F DM iN (ub (qc D) (kpo D k)).toInt.toNat (xnu (DM mo) ke)))))))
/-- what an import is given -/
def foR (A : Nat → Nat) (h : xb_H) (F : Nat → Nat → Int32) (DM : Nat → zM) (v : Nat → Int32) (D : zM) (k : Nat) (r : Int32) : Prop :=
  ∃ is : Int32, foI A F DM v D k is ∧ ((is.toInt < 0 ∧ r = is) ∨ ∃ g : Nat, is.toInt = g ∧ ((fiS A h F DM D k g ∧ r = is) ∨ (¬ fiS A h F DM D k g ∧ r = -43)))
theorem m_found {x1 x2 : Int32} (hA : rA own mm A h F v DM len rl K) (h1 : x1.toInt = m) (hm : m < vN v 5) (h2 : x2.toInt = k) (hk : k < qt (DM m) 2)
    (hQ : ∀ (v' : Nat → Int32) (h' : xb_H) (r : Int32), vg v v' → v' 17 = 0 → lq mm h h' → r.toInt < 0 ∨ rOK (fun k => F (A k)) v DM (DM m) k r.toInt → foR A h F DM v (DM m) k r → Qr r (mH h' F mm v')) : w_M_found mm x1 x2 (mH h F mm v) Qr := by
  have hB := hA.B
  have hX := hA.X hm
  have n30 := (hA.n (k := 30) (b := 24) (by decide)).2
  obtain ⟨-, -, b1, b2, b3, b4, b5⟩ := id hX
  obtain ⟨c1, q, ⟨p1, p2, r1, r2, r3⟩, c3⟩ := (b4 2 (by decide)).2 k hk
  have hkp : kpo (DM m) k = p2 := by unfold kpo; rw [rN_E r1, rN_E r2]
  obtain ⟨a1, n1, s1, s2, -⟩ := id r1
  obtain ⟨a2, n2, t1, t2, -⟩ := id r2
  have rb1 := rC_b s1
  have rb2 := rC_b t1
  obtain ⟨d1, d2, d3⟩ := rN_b r1 s1
  obtain ⟨e1, e2, e3⟩ := rN_b r2 t1
  have hp2q : p2 ≤ q := by
    rcases r3 with ⟨-, x, r4⟩ | ⟨-, r4⟩ | ⟨-, r4⟩ | ⟨-, r4⟩
    · have := rC_b r4; omega
    · have := rLim_b r4.2; omega
    · have := rLim_b r4; omega
    · have := r4.2.2; omega
  obtain ⟨κ, hκ, hκ4⟩ : ∃ κ : Nat, (ub (qc (DM m)) (kpo (DM m) k)).toInt = κ ∧ κ < 4 := by
    rw [hkp]
    rcases r3 with ⟨e, -⟩ | ⟨e, -⟩ | ⟨e, -⟩ | ⟨e, -⟩
    · exact ⟨0, by rw [e]; rfl, by decide⟩
    · exact ⟨1, by rw [e]; rfl, by decide⟩
    · exact ⟨2, by rw [e]; rfl, by decide⟩
    · exact ⟨3, by rw [e]; rfl, by decide⟩
  unfold w_M_found
  refine ⟨hB.2.1, m_importAt hX hA.z h1 h2 hk (fun v1 k1 _ => m_placeOf hX h1 (s := 2) rfl (by decide) h2 hk (fun r5 e5 _ => m_go_k hX k1.2.2.2 h1 e5 c1 (by omega) (fun v2 k2 _ => m_count_k hX.rd k2.2.2.1 k2.2.2.2 s1 (by omega) (fun v3 o3 z3 _ v10 e10 v11 e11 v12 e12 => ?_))))⟩
  rw [mH_i] at e11
  have e11' : v11.toInt = a1 := by rw [e11]; exact o3.2.1
  have e10' : v10.toInt = (n1.toInt.toNat : Nat) := by rw [e10, z_of64]; omega
  have e12' : v12.toInt = p1 := by rw [e12, z_ad2 e11' e10' (by omega) (by omega)]; omega
  have G3 := (k1.1.tr k2.1).tr o3.vg
  refine m_go_k hX z3 h1 e12' (by omega) (by omega) (fun v4 k4 _ => m_count_k hX.rd k4.2.2.1 k4.2.2.2 t1 (by omega) (fun v5 o5 z5 _ v17 e17 v18 e18 => ?_))
  rw [mH_i] at e18
  have e18' : v18.toInt = a2 := by rw [e18]; exact o5.2.1
  have e17' : v17.toInt = (n2.toInt.toNat : Nat) := by rw [e17, z_of64]; omega
  have G5 := (G3.tr k4.1).tr o5.vg
  have A5 := hA.vg G5 z5
  have ev : ∀ (u : Nat → Int32), vg v u → ∀ k, k ∉ [14, 15, 16, 17, 18] → vN u k = vN v k := fun u gu k hk => by
    have qn : ∀ j, j ∈ [14, 15, 16, 17, 18] → k ≠ j := fun j hj e => hk (e ▸ hj)
    unfold vN
    rw [gu k (qn 14 (by decide)) (qn 15 (by decide)) (qn 16 (by decide)) (qn 17 (by decide)) (qn 18 (by decide))]
  have fOv : ∀ (u : Nat → Int32) (f : Nat), vg v u → fnO u f → fnO v f := fun u f gu hf => by
    unfold fnO at *
    rw [ev u gu 43 (by decide)] at hf
    exact hf
  have fOu : ∀ (u : Nat → Int32) (f : Nat), vg v u → fnO v f → fnO u f := fun u f gu hf => by
    unfold fnO at *
    rw [ev u gu 43 (by decide)]
    exact hf
  have rOv : ∀ (u : Nat → Int32) (r : Int), vg v u → rOK (fun k => F (A k)) u DM (DM m) k r → rOK (fun k => F (A k)) v DM (DM m) k r := fun u r gu hr => by
    obtain ⟨o0, o1, o2, o3⟩ := hr
    rw [ev u gu 46 (by decide)] at o1
    rw [ev u gu 52 (by decide)] at o2
    rw [ev u gu 58 (by decide)] at o3
    exact ⟨fun e => by obtain ⟨f, y1, y2, y3⟩ := o0 e; exact ⟨f, y1, fOv u f gu y2, y3⟩, o1, o2, o3⟩
  -- the end: does it fit
  have L183 : ∀ (u : Nat → Int32) (x9 : Int32), vg v u → u 17 = 0 → (x9.toInt < 0 ∨ ∃ g : Nat, x9.toInt = g ∧ (κ = 0 → fnO v g) ∧ (κ = 1 → g < vN v 46) ∧ (κ = 2 → g < vN v 52) ∧ (κ = 3 → g < vN v 58)) → foI A F DM v (DM m) k x9 → w_M_found_L183 Qr mm x1 x2 (ub (qc (DM m)) (kpo (DM m) k)) x9 (mH h F mm u) := by
    intro u x9 gu zu hx hfo
    have Au := hA.vg gu zu
    unfold w_M_found_L183 w_M_found_L212
    refine ⟨fun hp => ⟨hB.2.1, ?_⟩, fun hn => hQ u h x9 gu zu lq.rf (.inl ?_) ⟨x9, hfo, .inl ⟨?_, rfl⟩⟩⟩
    · rw [z_le] at hp
      simp only [Int32.reduceToInt] at hp
      rcases hx with hx | ⟨g, y1, y2, y3, y4, y5⟩
      · omega
      · refine m_fits Au h1 (by rw [ev u gu 5 (by decide)]; exact hm) h2 hk rfl y1 (fun e => fOu u g gu (y2 (by omega))) (fun e => by rw [ev u gu 46 (by decide)]; exact y3 (by omega)) (fun e => by rw [ev u gu 52 (by decide)]; exact y4 (by omega)) (fun e => by rw [ev u gu 58 (by decide)]; exact y5 (by omega)) (fun v' h' r g' z' l' hr hfi _ => ⟨fun e0 => hQ v' h' _ (gu.tr g') z' l' (.inl (by decide)) ⟨x9, hfo, .inr ⟨g, y1, .inr ⟨hfi.elim And.right (fun h => absurd (h.1.symm.trans e0) (by decide)), rfl⟩⟩⟩, fun hn => hQ v' h' x9 (gu.tr g') z' l' (.inr ?_) ⟨x9, hfo, .inr ⟨g, y1, .inl ⟨hfi.elim (fun h => absurd h.1 hn) And.right, rfl⟩⟩⟩⟩)
        rw [y1]
        exact rOv u g gu (hr.elim (fun e => absurd e hn) id)
    · rw [z_le] at hn
      simp only [Int32.reduceToInt] at hn
      omega
    · rw [z_le] at hn
      simp only [Int32.reduceToInt] at hn
      omega
  obtain ⟨S1, S2⟩ := rC_E s1
  obtain ⟨T1, T2⟩ := rC_E t1
  have hp1 : a1 + n1.toInt.toNat = p1 := by omega
  have mkI : ∀ is : Int32, ((hsR A F a1 v10 ∧ hoV (DM m) p1 (ub (qc (DM m)) (kpo (DM m) k)) is) ∨ (¬ hsR A F a1 v10 ∧ ∃ i : Int32, inR A F (vN v 42) a1 n1.toInt.toNat i ∧ ((i = -1 ∧ is = -41) ∨ ∃ iN mo : Nat, i.toInt = iN ∧ (F (A 31) iN).toInt = mo ∧ ∃ e : Int32, rxN (DM mo) (F (A 3)) a2 n2.toInt.toNat e ∧ ((e = -1 ∧ is = -42) ∨ ∃ ke : Nat, e.toInt = ke ∧ ((ub (qc (DM mo)) (xko (DM mo) ke) ≠ ub (qc (DM m)) (kpo (DM m) k) ∧ is = -43) ∨ (ub (qc (DM mo)) (xko (DM mo) ke) = ub (qc (DM m)) (kpo (DM m) k) ∧ is.toInt = mnV A F DM iN (ub (qc (DM m)) (kpo (DM m) k)).toInt.toNat (xnu (DM mo) ke))))))) → foI A F DM v (DM m) k is := fun is h9 => ⟨a1, a2, n1.toInt.toNat, n2.toInt.toNat, v10, S1.symm, S2.symm, e10', by rw [hp1]; exact T1.symm, by rw [hp1]; exact T2.symm, by rw [hp1]; exact h9⟩
  refine m_isHost hB e11' (fun e4 => ?_) (fun r20 h20 _ => ⟨fun z20 => ?_, fun z20 => ?_⟩)
  · rw [e4] at e10'
    have : (4 : Int32).toInt = 4 := rfl
    omega
  · -- an instance of that name
    have nho : ¬ hsR A F a1 v10 := h20.elim And.right (fun h => absurd (h.1.symm.trans z20) (by decide))
    refine m_instanceNamed A5 e11' e10' (by omega) (fun r23 hr23 hin _ => ?_)
    rw [ev v5 G5 42 (by decide)] at hin
    have L127a : ∀ (u : Nat → Int32), vg v u → u 17 = 0 → r23 = -1 → w_M_found_L127 Qr r23 (mH h F mm u) := fun u gu zu e => by
      unfold w_M_found_L127 w_M_found_L139
      refine ⟨fun h9 => absurd h9 (by rw [e]; decide), fun _ => hQ u h _ gu zu lq.rf (.inl (by decide)) ⟨-41, mkI _ (.inr ⟨nho, r23, hin, .inl ⟨e, rfl⟩⟩), .inl ⟨by decide, rfl⟩⟩⟩
    have L127b : ∀ (u : Nat → Int32), vg v u → u 17 = 0 → 0 ≤ r23 → foI A F DM v (DM m) k (-42) → w_M_found_L127 Qr r23 (mH h F mm u) := fun u gu zu hp hfo => by
      unfold w_M_found_L127 w_M_found_L139
      exact ⟨fun _ => hQ u h _ gu zu lq.rf (.inl (by decide)) ⟨-42, hfo, .inl ⟨by decide, rfl⟩⟩, fun h9 => absurd hp h9⟩
    refine ⟨fun hp => ?_, fun hn => ?_⟩
    · rcases hr23 with e | ⟨i, i1, i2⟩
      · rw [e] at hp
        exact absurd hp (by decide)
      · rw [ev v5 G5 30 (by decide)] at i2
        obtain ⟨mo, mo1, mo2⟩ := hA.mo i2
        have hXo := hA.X mo2
        refine m_exportNamed hXo z5 i1 (by omega) mo1 e18' e17' (by omega) (fun v6 r26 g6 z6 hr26 _ => ?_)
        have G6 := G5.tr g6
        obtain ⟨x31, y31, z31, w31⟩ := hB.kx (k := 31) (kd := 102) (n := 24) (by decide) (by decide)
        unfold w_M_found_L115
        have mk2 : ∀ is : Int32, ((r26 = -1 ∧ is = -42) ∨ ∃ ke : Nat, r26.toInt = ke ∧ ((ub (qc (DM mo)) (xko (DM mo) ke) ≠ ub (qc (DM m)) (kpo (DM m) k) ∧ is = -43) ∨ (ub (qc (DM mo)) (xko (DM mo) ke) = ub (qc (DM m)) (kpo (DM m) k) ∧ is.toInt = mnV A F DM i (ub (qc (DM m)) (kpo (DM m) k)).toInt.toNat (xnu (DM mo) ke)))) → foI A F DM v (DM m) k is := fun is h9 => mkI is (.inr ⟨nho, r23, hin, .inr ⟨i, mo, i1, mo1, r26, hr26, h9⟩⟩)
        have m1 : ¬ 0 ≤ r26 → r26 = -1 := fun hn => by
          rcases hr26 with ⟨e, -⟩ | ⟨ke, ke1, -⟩
          · exact e
          · exfalso
            apply hn
            rw [z_le, ke1]
            simp only [Int32.reduceToInt]
            omega
        refine ⟨fun hneg => ?_, fun _ => ⟨fun hp26 => ⟨hB.2.1, A 31, x31, y31, ?_, fun v7 e7 => ?_⟩, fun hn26 => L127b v6 G6 z6 hp (mk2 _ (.inl ⟨m1 hn26, rfl⟩))⟩⟩
        · rw [z_lt, i1] at hneg
          simp only [Int32.reduceToInt] at hneg
          omega
        · rw [z_in, i1]
          show _ ∧ _ < ((xb_n h (A 31) : Nat) : Int)
          omega
        · rw [mH_o w31, z_cl, i1, Int.toNat_natCast] at e7
          have e7' : v7.toInt = mo := by rw [e7]; exact mo1
          rcases hr26 with ⟨e, -⟩ | ⟨ke, ke1, ke2, -⟩
          · rw [e] at hp26
            exact absurd hp26 (by decide)
          · have cx := (hA.V mo2).2.2.2.1 ke ke2
            have cb := cx.b hXo.2.2
            refine m_exportKind hXo z6 e7' ke1 ke2 (fun v8 k8 _ => ⟨fun nek => ?_, fun ek => ?_⟩)
            · unfold w_M_found_L181
              exact L183 v8 _ (G6.tr k8.1) k8.2.2.2 (.inl (by decide)) (mk2 _ (.inr ⟨ke, ke1, .inl ⟨nek, rfl⟩⟩))
            · refine m_exportNumber hXo k8.2.2.2 e7' ke1 ke2 (by omega) (fun v9 r12 g9 z9 e12 _ => ?_)
              have G9 := (G6.tr k8.1).tr g9
              have A9 := hA.vg G9 z9
              obtain ⟨κ', y1, y2, y3⟩ := cx
              have eκ : κ' = κ := by
                rw [ek] at y2
                omega
              subst eκ
              refine m_meantE (k := xnu (DM mo) ke) A9 i1 (by rw [ev v9 G9 30 (by decide)]; exact i2) hκ hκ4 e12 mo1 y3 (fun v13 r14 g g13 z13 e14 emn f0' f1' f2' f3' _ => ?_)
              unfold w_M_found_L181
              refine L183 v13 r14 (G9.tr g13) z13 (.inr ⟨g, e14, fun e => fOv v9 g G9 (f0' e).1, fun e => ?_, fun e => ?_, fun e => ?_⟩) (mk2 _ (.inr ⟨ke, ke1, .inr ⟨ek, by rw [e14, emn, hκ, Int.toNat_natCast]⟩⟩))
              · have := f1' e
                rw [ev v9 G9 46 (by decide)] at this
                exact this
              · have := f2' e
                rw [ev v9 G9 52 (by decide)] at this
                exact this
              · have := (f3' e).1
                rw [ev v9 G9 58 (by decide)] at this
                exact this
    · unfold w_M_found_L115
      refine ⟨fun _ => L127a v5 G5 z5 ?_, fun h9 => ?_⟩
      · rcases hr23 with e | ⟨i, i1, -⟩
        · exact e
        · exfalso
          apply hn
          rw [z_le, i1]
          simp only [Int32.reduceToInt]
          omega
      exfalso
      rw [z_le] at hn
      rw [z_lt] at h9
      simp only [Int32.reduceToInt] at hn h9
      omega
  · -- the host
    have ho : hsR A F a1 v10 := h20.elim (fun h => absurd h.1 z20) And.right
    refine m_ofHost hX z5 h1 e12' (by omega) r2 (by omega) (fun v6 r28 g6 z6 hr hov _ => L183 v6 r28 (G5.tr g6) z6 (hr.imp id (fun ⟨e0, f, y1, y2, y3⟩ => ⟨f, y1, fun _ => .inr ⟨y2, y3⟩, fun e => ?_, fun e => ?_, fun e => ?_⟩)) (mkI _ (.inl ⟨ho, hov⟩)))
    all_goals
      rw [e0] at hκ
      have : (0 : Int32).toInt = 0 := rfl
      omega
end MN1

-- a run: control instructions
/-- a control instruction of the class: the outcome, what is put out -/
def coC (h : xb_H) (ad : Nat → Nat) (W : wD) (D : Nat) (gx : Nat → fG) (n : Nat) (B : ctN) (ν0 : Nat → Int32) (op : Nat) (gs : List gF) (o : Oc) (e : Option Int64) : Prop :=
  (op = 4 → e = none ∧ ∃ c, gC (gx (D - 1)) = 127 :: c ∧ ((xb_l h (ad 37) (gO (gx (D - 1)) + c.length) ≠ 0 ∧ o = .inl (D, va_up gx (D - 1) (gT_ (gx (D - 1)) (gA (gx (D - 1)) + 2) c ((gA (gx (D - 1)), c) :: gs)), xb_l h (ad 37))) ∨ (xb_l h (ad 37) (gO (gx (D - 1)) + c.length) = 0 ∧ ∃ en : Nat, B (gA (gx (D - 1)) + 1) en ∧ (((dcb (wd W (gI (gx (D - 1)))) en).toInt = 5 ∧ o = .inl (D, va_up gx (D - 1) (gT_ (gx (D - 1)) (en + 1) c ((gA (gx (D - 1)), c) :: gs)), xb_l h (ad 37))) ∨ ((dcb (wd W (gI (gx (D - 1)))) en).toInt ≠ 5 ∧ o = .inl (D, va_up gx (D - 1) (gT_ (gx (D - 1)) (en + 1) c gs), xb_l h (ad 37))))))) ∧
  (op = 12 → e = none ∧ ∃ i : Nat, (ν0 (gA (gx (D - 1)) + 1)).toInt = i ∧ brC W D gx (xb_l h (ad 37)) B i gs o) ∧
  (op = 13 → e = none ∧ ∃ c, gC (gx (D - 1)) = 127 :: c ∧ ((xb_l h (ad 37) (gO (gx (D - 1)) + c.length) ≠ 0 ∧ ∃ i : Nat, (ν0 (gA (gx (D - 1)) + 1)).toInt = i ∧ brC W D (va_up gx (D - 1) (gR_ (gx (D - 1)) (gA (gx (D - 1))) c)) (xb_l h (ad 37)) B i gs o) ∨ (xb_l h (ad 37) (gO (gx (D - 1)) + c.length) = 0 ∧ ∃ x : Nat, B (gA (gx (D - 1))) x ∧ o = .inl (D, va_up gx (D - 1) (gT_ (gx (D - 1)) x c gs), xb_l h (ad 37))))) ∧
  (op = 14 → e = none ∧ ∃ c, gC (gx (D - 1)) = 127 :: c ∧ ∃ L k i : Nat, (ν0 (gA (gx (D - 1)) + 1)).toInt = L ∧ (k : Int) = min (xb_l h (ad 37) (gO (gx (D - 1)) + c.length)).toInt L ∧ (ν0 (gA (gx (D - 1)) + 2 + k)).toInt = i ∧ brC W D (va_up gx (D - 1) (gR_ (gx (D - 1)) (gA (gx (D - 1))) c)) (xb_l h (ad 37)) B i gs o) ∧
  (op = 15 → e = none ∧ o = ecO W D gx (xb_l h (ad 37))) ∧
  (op = 16 → ∃ (i x : Nat) (c : List Int), (ν0 (gA (gx (D - 1)) + 1)).toInt = i ∧ i < nf (wd W (gI (gx (D - 1)))) ∧ B (gA (gx (D - 1))) x ∧ vf W (fnI h W (gI (gx (D - 1))) i) ∧ gC (gx (D - 1)) = (fT W (fnI h W (gI (gx (D - 1))) i)).1 ++ c ∧ clR W D (va_up gx (D - 1) (gT_ (gx (D - 1)) x c gs)) (xb_l h (ad 37)) (fnI h W (gI (gx (D - 1))) i) (gO (gx (D - 1)) + c.length) n (gA (gx (D - 1))) o e) ∧
  (op = 17 → ∃ (u j κ f : Nat) (c0 : List Int), (ν0 (gA (gx (D - 1)) + 1)).toInt = u ∧ u < dn (wd W (gI (gx (D - 1)))) 0 / 5 ∧ 0 < dn (wd W (gI (gx (D - 1)))) 3 / 3 ∧ gC (gx (D - 1)) = 127 :: c0 ∧ (xb_l h (ad 37) (gO (gx (D - 1)) + c0.length)).toInt = j ∧ ceC h ad W (gI (gx (D - 1))) u j κ f ∧ ((κ ≠ 0 ∧ e = none ∧ o = trD κ D gx (gA (gx (D - 1)))) ∨ (κ = 0 ∧ ∃ (x : Nat) (c : List Int), B (gA (gx (D - 1))) x ∧ c0 = (fT W f).1 ++ c ∧ clR W D (va_up gx (D - 1) (gT_ (gx (D - 1)) x c gs)) (xb_l h (ad 37)) f (gO (gx (D - 1)) + c.length) n (gA (gx (D - 1))) o e))) ∧
  (op = 26 → e = none ∧ ∃ r c, gC (gx (D - 1)) = r :: c ∧ o = .inl (D, va_up gx (D - 1) (gT_ (gx (D - 1)) (gA (gx (D - 1)) + 1) c gs), xb_l h (ad 37))) ∧
  (op = 27 → e = none ∧ ∃ r c, gC (gx (D - 1)) = 127 :: r :: r :: c ∧ o = .inl (D, va_up gx (D - 1) (gT_ (gx (D - 1)) (gA (gx (D - 1)) + 1) (r :: c) gs), if xb_l h (ad 37) (gO (gx (D - 1)) + c.length + 2) = 0 then va_up (xb_l h (ad 37)) (gO (gx (D - 1)) + c.length) (xb_l h (ad 37) (gO (gx (D - 1)) + c.length + 1)) else xb_l h (ad 37))) ∧
  (op ≠ 4 → op < 12 ∨ (17 < op ∧ op ≠ 26 ∧ op ≠ 27) → e = none ∧ o = trD 1 D gx (gA (gx (D - 1))))
theorem up_up {gx : Nat → fG} {k : Nat} {a b : fG} : va_up (va_up gx k a) k b = va_up gx k b := by
  funext j
  rw [xh_up, xh_up, xh_up]
  split <;> rfl
section CO1
variable {own own' ad ad' : Nat → Nat} {h h' h1 : xb_H} {W : wD} {σ D : Nat} {gx : Nat → fG} {t P lcn p0 E g : Nat} {lo ν0 : Nat → Int32} {G : ctG}
theorem bgv.st {C X : List Nat} {rc rs bc bs : Nat} (hg : bgv ad h rc rs bc bs) (hB : cB own ad h) (s : stp C X own ad own' ad h h') : bgv ad h' rc rs bc bs := by
  unfold bgv
  rw [(s.2.2.2.1 _ (hB.z 37 (by omega))).2]
  exact (hg.sp (c := 0) (s := 0) (ad' := ad) (h' := h') (fun k hk => ⟨rfl, (s.2.2.2.1 _ (hB.z k hk)).2⟩)).2.2
theorem gup {x : fG} : gA (va_up gx (D - 1) x (D - 1)) = gA x ∧ gC (va_up gx (D - 1) x (D - 1)) = gC x ∧ gI (va_up gx (D - 1) x (D - 1)) = gI x ∧ gO (va_up gx (D - 1) x (D - 1)) = gO x ∧ gK (va_up gx (D - 1) x (D - 1)) = gK x := by
  rw [xh_up, if_pos rfl]
  exact ⟨rfl, rfl, rfl, rfl, rfl⟩
theorem mc_control {x1 : Int32} {o n0 rc rs bc bs : Nat} {gs : List gF} {Qr : xb_H → Nat → Nat → Prop} (hB : cB own ad h) (hW : wI own ad h W σ) (hS : mS ad h) (hg : bgv ad h rc rs bc bs) (hr : rX ad h W D gx t P lcn p0 E lo ν0 g G) (hX : ∀ i, i < wic W → moB (wd W i)) (hn0 : (xb_i h (ad 27) 1).toInt = n0) (hx : x1.toInt = o) (hl : ct_LC (dn (wd W (gI (gx (D - 1))))) (dvs (wd W (gI (gx (D - 1))))) (dcb (wd W (gI (gx (D - 1))))) lo t lcn ν0 G (ct_B (dnu (wd W (gI (gx (D - 1))))) p0 E) o (gA (gx (D - 1))) (gC (gx (D - 1))) gs)
    (hQ : ∀ (h' : xb_H) (own' ad' : Nat → Nat) (bc' bs' : Nat) (oc : Oc) (e : Option Int64), caQ own ad h W σ rc rs own' ad' h' bc' bs' oc e → coC h ad W D gx n0 (ct_B (dnu (wd W (gI (gx (D - 1))))) p0 E) ν0 o gs oc e → Qr h' bc' bs') : w_Machine_control (ad 15) x1 h bc bs Qr := by
  obtain ⟨-, ⟨t1, t2, t3, t4, t5, t6, t7⟩, -, ⟨a, a5, b1, b2, b3, b7, b5, b6⟩, -, -⟩ := id hr
  obtain ⟨l5, hiO⟩ := hW.2.2.2.2.2.2.1.2.2.2 _ a5
  obtain ⟨⟨q1, q2, q3, q4, q5⟩, -⟩ := id hiO
  obtain ⟨⟨m1, m2, m3, m4, m5⟩, ⟨m6, m7, m8, m9⟩, -, -, m10⟩ := id q5.1
  obtain ⟨⟨c1, c2, c3, c4, c5⟩, ⟨e1, e2, e3, e4, e5, -⟩, -, g0, g1, g2, g3, -⟩ := id b1
  have k15 : xb_k h (ad 15) = 8 := hB.k 15 (by omega)
  have k37 : xb_k h (ad 37) = 103 := hB.k 37 (by omega)
  have r9 : xb_r h (ad 15) 9 = some (ad 37) := hB.r (15, 9, 37) (by decide)
  have S4 := hS.2.2.2
  have n3615 : ad 36 ≠ ad 15 := hB.ne (by omega) (by omega) (by omega)
  have fin : ∀ (h' : xb_H) (C : List Nat) (oc : Oc), stp C [] own ad own ad h h' → (∀ k ∈ C, k = 15 ∨ k = 36 ∨ k = 37) → oR ad h ad h' W oc → coC h ad W D gx n0 (ct_B (dnu (wd W (gI (gx (D - 1))))) p0 E) ν0 o gs oc none → Qr h' bc bs := fun h' C oc s hC hR hco => hQ h' own ad bc bs oc none (caQ.of hB hW hS hg s hC hR) hco
  have skip : ∀ (m : Nat) {P : Prop}, o = m → ∀ k : Nat, k ≠ m → o = k → P := fun m P h1 k h2 h3 => by omega
  have n : ∀ (k : Int32) (m : Nat), k.toInt = m → x1 = k → o = m := fun k m hk e => by rw [e, hk] at hx; omega
  -- a note of the instruction
  have ntv : ∀ (h2 : xb_H), xb_i h2 (ad 15) 15 = xb_i h (ad 15) 15 → xb_n h2 = xb_n h → xb_i h2 (dnt (wd W (gI (gx (D - 1))))) = xb_i h (dnt (wd W (gI (gx (D - 1))))) → ∀ (y : Int32) (j : Nat) (w : Int), y.toInt = j → j ≤ 1 → ct_B (dnu (wd W (gI (gx (D - 1))))) p0 E (gA (gx (D - 1)) + j) w → vp_in (xb_i h2 (ad 15) 15 + y) (xb_n h2 (dnt (wd W (gI (gx (D - 1)))))) ∧ (xb_i h2 (dnt (wd W (gI (gx (D - 1))))) (xb_i h2 (ad 15) 15 + y).toNatClampNeg).toInt = w := by
    intro h2 f1 f2 f3 y j w hy hj hb
    have e9 : (xb_i h2 (ad 15) 15 + y).toInt = (gA (gx (D - 1)) + j : Nat) := by
      rw [f1, z_add, t2, hy]
      have := hb.2.1
      omega
    refine ⟨by rw [z_in, e9, f2, m8]; have := hb.2.1; omega, ?_⟩
    rw [z_cl, e9, Int.toNat_natCast, f3, m9]
    exact hb.2.2
  have nt0 : ∀ (h2 : xb_H), xb_i h2 (ad 15) 15 = xb_i h (ad 15) 15 → xb_n h2 = xb_n h → xb_i h2 (dnt (wd W (gI (gx (D - 1))))) = xb_i h (dnt (wd W (gI (gx (D - 1))))) → ∀ (w : Int), ct_B (dnu (wd W (gI (gx (D - 1))))) p0 E (gA (gx (D - 1))) w → vp_in (xb_i h2 (ad 15) 15) (xb_n h2 (dnt (wd W (gI (gx (D - 1)))))) ∧ (xb_i h2 (dnt (wd W (gI (gx (D - 1))))) (xb_i h2 (ad 15) 15).toNatClampNeg).toInt = w := by
    intro h2 f1 f2 f3 w hb
    refine ⟨by rw [z_in, f1, t2, f2, m8]; have := hb.2.1; omega, ?_⟩
    rw [z_cl, f1, t2, Int.toNat_natCast, f3, m9]
    exact hb.2.2
  have nd : dnt (wd W (gI (gx (D - 1)))) ≠ ad 15 := hB.n1 (by omega) q5.2.2.2.2.1
  have F : o ≠ 4 → (o < 12 ∨ (17 < o ∧ o ≠ 26 ∧ o ≠ 27)) → w_Machine_control_L402 Qr (ad 15) h bc bs := by
    intro o4 oo
    unfold w_Machine_control_L402 w_Machine_control_L407
    refine ⟨k15, hr.fall (κ := 1) hB hW hS rfl (fun h' s f1 _ => fin h' _ _ s (by simp) f1 ⟨fun e => by omega, fun e => by omega, fun e => by omega, fun e => by omega, fun e => by omega, fun e => by omega, fun e => by omega, fun e => by omega, fun e => by omega, fun _ _ => ⟨rfl, rfl⟩⟩)⟩
  -- a condition is taken
  have cond : ∀ (h3 : xb_H) (c : List Int), gC (gx (D - 1)) = 127 :: c → h3 = xb_I h (ad 15) 10 (xb_i h (ad 15) 10 - 1) → stp [15] [] own ad own ad h h3 ∧ rX ad h3 W D (va_up gx (D - 1) (gR_ (gx (D - 1)) (gA (gx (D - 1))) c)) t P lcn p0 E lo ν0 g G ∧ xb_r h3 (ad 15) 9 = some (ad 37) ∧ xb_k h3 (ad 37) = 103 ∧ vp_in (xb_i h3 (ad 15) 10) (xb_n h3 (ad 37)) ∧ xb_i h3 (ad 15) 15 = xb_i h (ad 15) 15 ∧ xb_n h3 = xb_n h ∧ xb_i h3 (dnt (wd W (gI (gx (D - 1))))) = xb_i h (dnt (wd W (gI (gx (D - 1))))) ∧ xb_r h3 = xb_r h ∧ xb_k h3 = xb_k h ∧ nK ad h h3 ∧ xb_l h3 = xb_l h ∧ (xb_i h3 (ad 15) 10).toNatClampNeg = gO (gx (D - 1)) + c.length := by
    intro h3 c hc e3'
    obtain ⟨p1, p2, p3, p4⟩ := hr.tp1 hS hc
    have hp := hr.pop hB hc p2
    rw [← e3'] at hp
    have s3 : stp [15] [] own ad own ad h h3 := by rw [e3']; exact stp.Ic hB
    exact ⟨s3, hp, s3.1.r (15, 9, 37) (by decide), s3.1.k 37 (by omega), by rw [e3', xh_iI, if_pos rfl, xh_up, if_pos rfl, xh_nI]; exact p1, by rw [e3', xh_iI, if_pos rfl, xh_up, if_neg (by omega)], by rw [e3', xh_nI], by rw [e3', xh_iI, if_neg nd], by rw [e3', xh_rI], by rw [e3', xh_kI], ⟨by rw [e3', xh_lI], by rw [e3', xh_iI, if_pos rfl, xh_up, if_neg (by omega)], by rw [e3', xh_iI, if_neg n3615]⟩, by rw [e3', xh_lI], by rw [e3', xh_iI, if_pos rfl, xh_up, if_pos rfl]; exact p3⟩
  unfold w_Machine_control
  have F' : ∀ (k : Int32) (m : Nat), k.toInt = m → m ≠ 4 → (m < 12 ∨ (17 < m ∧ m ≠ 26 ∧ m ≠ 27)) → x1 = k → w_Machine_control_L402 Qr (ad 15) h bc bs := fun k m hk h1 h2 e => F (by have := n k m hk e; omega) (by have := n k m hk e; omega)
  refine ⟨fun e => ⟨k15, fun h3 e3' => ?_⟩, F' _ 5 rfl (by omega) (by omega), F' _ 6 rfl (by omega) (by omega), F' _ 7 rfl (by omega) (by omega), F' _ 8 rfl (by omega) (by omega), F' _ 9 rfl (by omega) (by omega), F' _ 10 rfl (by omega) (by omega), F' _ 11 rfl (by omega) (by omega), fun e => ⟨k15, _, t7, m7, ?_⟩, fun e => ⟨k15, fun h27 e27 => ?_⟩, fun e => ⟨k15, ?_⟩, fun e => ⟨k15, ?_⟩, fun e => ⟨k15, _, t5, _, t7, m7, ?_⟩, fun e => ⟨k15, ?_⟩, F' _ 18 rfl (by omega) (by omega), F' _ 19 rfl (by omega) (by omega), F' _ 20 rfl (by omega) (by omega), F' _ 21 rfl (by omega) (by omega), F' _ 22 rfl (by omega) (by omega), F' _ 23 rfl (by omega) (by omega), F' _ 24 rfl (by omega) (by omega), F' _ 25 rfl (by omega) (by omega), fun e => ⟨k15, fun h85 e85 h86 e86 => ?_⟩, fun e => ⟨k15, fun h89 e89 => ?_⟩, fun w1 _ _ _ _ _ _ _ w2 w3 w4 w5 w6 w7 _ _ _ _ _ _ _ _ w8 w9 => F ?_ ?_⟩
  rotate_right 2
  · rw [z_eq, hx] at w1
    simp only [Int32.reduceToInt] at w1
    omega
  · rw [z_eq, hx] at w2 w3 w4 w5 w6 w7 w8 w9
    simp only [Int32.reduceToInt] at w2 w3 w4 w5 w6 w7 w8 w9
    omega
  · -- 4: if
    obtain ⟨-, -, c, hc, hG, hG2⟩ := hl.2.2.1 (by have := n 4 4 rfl e; omega)
    have o4 := n 4 4 rfl e
    obtain ⟨s3, hX3, y1, y2, y3, y4, y5, y6, y7, y8, y9, yl, yc⟩ := cond h3 c hc e3'
    have L159 : ∀ (z : Int32) (a' : Nat) (gs' : List gF), z.toInt = a' → G 0 a' c gs' → coC h ad W D gx n0 (ct_B (dnu (wd W (gI (gx (D - 1))))) p0 E) ν0 o gs (.inl (D, va_up gx (D - 1) (gT_ (gx (D - 1)) a' c gs'), xb_l h (ad 37))) none → w_Machine_control_L159 Qr z (ad 15) h3 bc bs := by
      intro z a' gs' hz hG' hco
      unfold w_Machine_control_L159 w_Machine_control_L407
      refine ⟨s3.1.k 15 (by omega), fun h2 e2' => ?_⟩
      rw [e2']
      have ho := (hX3.at (gs := gs') s3.1 (by rw [gup.2.1]; exact hG') hz).nk y9
      rw [gup.2.1, xh_up, if_pos rfl, up_up, yl] at ho
      exact fin _ _ _ (s3.tr (stp.Ic s3.1)) (by simp) ho hco
    rw [yc, yl]
    have co4 : ∀ oc : Oc, ((xb_l h (ad 37) (gO (gx (D - 1)) + c.length) ≠ 0 ∧ oc = .inl (D, va_up gx (D - 1) (gT_ (gx (D - 1)) (gA (gx (D - 1)) + 2) c ((gA (gx (D - 1)), c) :: gs)), xb_l h (ad 37))) ∨ (xb_l h (ad 37) (gO (gx (D - 1)) + c.length) = 0 ∧ ∃ en : Nat, ct_B (dnu (wd W (gI (gx (D - 1))))) p0 E (gA (gx (D - 1)) + 1) en ∧ (((dcb (wd W (gI (gx (D - 1)))) en).toInt = 5 ∧ oc = .inl (D, va_up gx (D - 1) (gT_ (gx (D - 1)) (en + 1) c ((gA (gx (D - 1)), c) :: gs)), xb_l h (ad 37))) ∨ ((dcb (wd W (gI (gx (D - 1)))) en).toInt ≠ 5 ∧ oc = .inl (D, va_up gx (D - 1) (gT_ (gx (D - 1)) (en + 1) c gs), xb_l h (ad 37)))))) → coC h ad W D gx n0 (ct_B (dnu (wd W (gI (gx (D - 1))))) p0 E) ν0 o gs oc none := fun oc hoc => ⟨fun _ => ⟨rfl, c, hc, hoc⟩, skip 4 o4 12 (by omega), skip 4 o4 13 (by omega), skip 4 o4 14 (by omega), skip 4 o4 15 (by omega), skip 4 o4 16 (by omega), skip 4 o4 17 (by omega), skip 4 o4 26 (by omega), skip 4 o4 27 (by omega), fun h9 => absurd o4 h9⟩
    refine ⟨ad 37, y1, y2, y3, fun ev => ?_, fun ev => L159 _ _ _ ?_ hG (co4 _ (.inl ⟨ev, rfl⟩))⟩
    · obtain ⟨en, u1, u2⟩ := g2 _ _ _ hG2
      obtain ⟨w1, w2⟩ := ntv h3 y4 y5 y6 1 1 en rfl (by omega) u1
      refine ⟨_, by rw [y7]; exact t7, by rw [y8]; exact m7, w1, ?_⟩
      rcases u2 with ⟨u0, u2⟩ | ⟨u0, u2⟩
      · exact L159 _ (en + 1) _ (z_inc w2 (by have := (g0 _ _ _ u2).1.2.1; omega)) u2 (co4 _ (.inr ⟨ev, en, u1, .inl ⟨u0, rfl⟩⟩))
      · exact L159 _ (en + 1) _ (z_inc w2 (by have := (g0 _ _ _ u2).1.2.1; omega)) u2 (co4 _ (.inr ⟨ev, en, u1, .inr ⟨u0, rfl⟩⟩))
    · have h9 := (g0 _ _ _ hG).1.2.1
      rw [y4, z_add, t2, show (2 : Int32).toInt = 2 from rfl]
      omega
  · -- 12: br
    have o12 := n 12 12 rfl e
    obtain ⟨i, w, f1, f2, f3⟩ := hl.2.2.2.2.2.1 (by have := n 12 12 rfl e; omega)
    obtain ⟨w1, w2⟩ := ntv h rfl rfl rfl 1 1 w rfl (by omega) f2
    refine ⟨w1, mc_branch hB hW hS hr w2 f3 (fun h' oc s hR hbc _ => ?_)⟩
    exact fin h' _ oc s (by simp) hR ⟨skip 12 o12 4 (by omega), fun _ => ⟨rfl, i, f1, hbc⟩, skip 12 o12 13 (by omega), skip 12 o12 14 (by omega), skip 12 o12 15 (by omega), skip 12 o12 16 (by omega), skip 12 o12 17 (by omega), skip 12 o12 26 (by omega), skip 12 o12 27 (by omega), fun _ h9 => by omega⟩
  · -- 13: br_if
    have o13 := n 13 13 rfl e
    obtain ⟨i, w, c, x, f1, f2, hc, f3, f4, f5⟩ := hl.2.2.2.2.2.2.1 (by have := n 13 13 rfl e; omega)
    obtain ⟨s3, hX3, y1, y2, y3, y4, y5, y6, y7, y8, y9, yl, yc⟩ := cond h27 c hc e27
    have hW3 : wI own ad h27 W σ := hW.mc hB s3 (by simp) (fun h9 => by simp at h9)
    rw [yc, yl]
    have co13 : ∀ oc : Oc, ((xb_l h (ad 37) (gO (gx (D - 1)) + c.length) ≠ 0 ∧ ∃ i : Nat, (ν0 (gA (gx (D - 1)) + 1)).toInt = i ∧ brC W D (va_up gx (D - 1) (gR_ (gx (D - 1)) (gA (gx (D - 1))) c)) (xb_l h (ad 37)) (ct_B (dnu (wd W (gI (gx (D - 1))))) p0 E) i gs oc) ∨ (xb_l h (ad 37) (gO (gx (D - 1)) + c.length) = 0 ∧ ∃ x : Nat, ct_B (dnu (wd W (gI (gx (D - 1))))) p0 E (gA (gx (D - 1))) x ∧ oc = .inl (D, va_up gx (D - 1) (gT_ (gx (D - 1)) x c gs), xb_l h (ad 37)))) → coC h ad W D gx n0 (ct_B (dnu (wd W (gI (gx (D - 1))))) p0 E) ν0 o gs oc none := fun oc hoc => ⟨skip 13 o13 4 (by omega), skip 13 o13 12 (by omega), fun _ => ⟨rfl, c, hc, hoc⟩, skip 13 o13 14 (by omega), skip 13 o13 15 (by omega), skip 13 o13 16 (by omega), skip 13 o13 17 (by omega), skip 13 o13 26 (by omega), skip 13 o13 27 (by omega), fun _ h9 => by omega⟩
    refine ⟨ad 37, y1, y2, y3, fun ev => ?_, fun ev => ?_⟩
    · unfold w_Machine_control_L407
      refine hX3.nt (a' := x) (gs := gs) s3.1 hW3 (by rw [gup.1, gup.2.2.1]; exact f4) (by rw [gup.2.1]; exact f5) (fun h' s hR => ?_)
      have ho := hR.nk y9
      rw [gup.2.1, xh_up, if_pos rfl, up_up, yl] at ho
      exact fin h' _ _ (s3.tr s) (by simp) ho (co13 _ (.inr ⟨ev, x, f4, rfl⟩))
    · obtain ⟨w1, w2⟩ := ntv h27 y4 y5 y6 1 1 w rfl (by omega) f2
      refine ⟨_, by rw [y7]; exact t7, by rw [y8]; exact m7, w1, mc_branch (i := i) (gs := gs) s3.1 hW3 (hS.st hB s3) hX3 w2 (by rw [gup.2.2.1, gup.2.1]; exact f3) (fun h' oc s hR hbc _ => ?_)⟩
      unfold w_Machine_control_L407
      rw [gup.2.2.1, yl] at hbc
      exact fin h' _ oc (s3.tr s) (by simp) (hR.nk y9) (co13 _ (.inl ⟨ev, i, f1, hbc⟩))
  · -- 14: br_table
    have o14 := n 14 14 rfl e
    obtain ⟨L, c, f1, f2, hc, f3⟩ := hl.2.2.2.2.2.2.2.1 (by have := n 14 14 rfl e; omega)
    refine mc_chosenLabel (L := L) hB hW hS hr hc f2 (fun k hk => by obtain ⟨i, w, -, u2, -⟩ := f3 k hk; exact ⟨w, u2⟩) (fun h43 r44 k hk hmn eh hb s3 hX3 _ => ?_)
    obtain ⟨i, w, u1, u2, u3⟩ := f3 k hk
    have hW3 : wI own ad h43 W σ := hW.mc hB s3 (by simp) (fun h9 => by simp at h9)
    have ew : r44.toInt = w := by rw [← u2.2.2, ← hb.2.2]
    refine mc_branch (i := i) (gs := gs) s3.1 hW3 (hS.st hB s3) hX3 ew (by rw [gup.2.2.1, gup.2.1]; exact u3) (fun h' oc s hR hbc _ => ?_)
    unfold w_Machine_control_L407
    rw [gup.2.2.1, show xb_l h43 = xb_l h by rw [eh, xh_lI]] at hbc
    exact fin h' _ oc (s3.tr s) (by simp) (hR.nk ⟨by rw [eh, xh_lI], by rw [eh, xh_iI, if_pos rfl, xh_up, if_neg (by omega)], by rw [eh, xh_iI, if_neg n3615]⟩) ⟨skip 14 o14 4 (by omega), skip 14 o14 12 (by omega), skip 14 o14 13 (by omega), fun _ => ⟨rfl, c, hc, L, k, i, f1, hmn, u1, hbc⟩, skip 14 o14 15 (by omega), skip 14 o14 16 (by omega), skip 14 o14 17 (by omega), skip 14 o14 26 (by omega), skip 14 o14 27 (by omega), fun _ h9 => by omega⟩
  · -- 15: return
    obtain ⟨c, hc⟩ := hl.2.2.2.2.2.2.2.2.1 (by have := n 15 15 rfl e; omega)
    have o15 := n 15 15 rfl e
    refine mc_endCall hB hW hS hr (c := c) (by rw [hr.rT_]; exact hc) (fun h' s hR _ => ?_)
    unfold w_Machine_control_L407
    exact fin h' _ _ s (by simp) hR ⟨skip 15 o15 4 (by omega), skip 15 o15 12 (by omega), skip 15 o15 13 (by omega), skip 15 o15 14 (by omega), fun _ => ⟨rfl, rfl⟩, skip 15 o15 16 (by omega), skip 15 o15 17 (by omega), skip 15 o15 26 (by omega), skip 15 o15 27 (by omega), fun _ h9 => by omega⟩
  · -- 16: call
    have o16 := n 16 16 rfl e
    obtain ⟨i, u, pa, P', x, c, f1, f2, f3, f4, f5, f6, hc, f7, f8⟩ := hl.2.2.2.2.2.2.2.2.2.1 (by have := n 16 16 rfl e; omega)
    obtain ⟨w1, w2⟩ := ntv h rfl rfl rfl 1 1 i rfl (by omega) f2
    obtain ⟨w3, w4⟩ := nt0 h rfl rfl rfl x f7
    refine ⟨w1, q1, iO_functionId hiO hW.1.2.1 w2 f3 (fun r59 f j1 j2 ⟨j3, j3v⟩ _ => ⟨_, t7, m7, w3, ?_⟩)⟩
    have eft : fT W f = (ptl (dcb (wd W (gI (gx (D - 1))))) pa P', (dvs (wd W (gI (gx (D - 1)))) 0 (5 * u + 4)).toInt) := by
      rw [j3]
      unfold ftm tyf
      rw [f4, Int.toNat_natCast, f5, f6, Int.toNat_natCast, Int.toNat_natCast]
    have hcp := hr.cp (f := f) (a' := x) (c := c) (gs := gs) (by rw [eft]; exact hc) (by rw [eft]; exact f8)
    refine mc_call (n0 := n0) (A0 := gA (gx (D - 1))) hB hW hS hcp hX hn0 (fun _ => t2) j2 j1 (fun _ => by rw [gup.1]; exact w4) hg (fun h' own' ad' bc' bs' oc oe hq hcl _ => ?_)
    unfold w_Machine_control_L407
    refine hQ h' own' ad' bc' bs' oc oe hq ⟨skip 16 o16 4 (by omega), skip 16 o16 12 (by omega), skip 16 o16 13 (by omega), skip 16 o16 14 (by omega), skip 16 o16 15 (by omega), fun _ => ⟨i, x, c, f1, f3, f7, ?_, ?_, ?_⟩, skip 16 o16 17 (by omega), skip 16 o16 26 (by omega), skip 16 o16 27 (by omega), fun _ h9 => by omega⟩
    · rw [← j3v]
      exact j2
    · rw [← j3v, eft]
      exact hc
    · rw [← j3v]
      exact hcl
  · -- 17: call_indirect
    have o17 := n 17 17 rfl e
    obtain ⟨u, pa, P', x, c, f1, f0, f2, f3, f5, f6, hc, f7, f8⟩ := hl.2.2.2.2.2.2.2.2.2.2.1 (by have := n 17 17 rfl e; omega)
    refine mc_chosenElement hB hW hS hr hc f1 f2 f3 (fun h' κ j f s y1 y2 y3 y4 _ => ⟨fun _ => ?_, fun e9 => absurd rfl e9⟩) (fun h' r68 f j s3 nk3 yl yj yce y1 y2 y3 hX3 _ => ⟨fun e9 => ?_, fun _ => ?_⟩)
    · unfold w_Machine_control_L407
      exact fin h' _ _ s (by simp) y1 ⟨skip 17 o17 4 (by omega), skip 17 o17 12 (by omega), skip 17 o17 13 (by omega), skip 17 o17 14 (by omega), skip 17 o17 15 (by omega), skip 17 o17 16 (by omega), fun _ => ⟨u, j, κ, f, _, f0, f3, f1, hc, y3, y4, .inl ⟨y2, rfl, rfl⟩⟩, skip 17 o17 26 (by omega), skip 17 o17 27 (by omega), fun _ h9 => by omega⟩
    · rw [e9, show (-1 : Int32).toInt = -1 from rfl] at y1
      omega
    · have hW3 : wI own ad h' W σ := hW.mc hB s3 (by simp) (fun h9 => by simp at h9)
      have hS3 := hS.st hB s3
      have eft : fT W f = (ptl (dcb (wd W (gI (gx (D - 1))))) pa P', (dvs (wd W (gI (gx (D - 1)))) 0 (5 * u + 4)).toInt) := by
        rw [y3]
        unfold tyf
        rw [f5, f6, Int.toNat_natCast, Int.toNat_natCast]
      have hcp := hX3.cp (f := f) (a' := x) (c := c) (gs := gs) (by rw [gup.2.1, eft]; rfl) (by rw [eft]; exact f8)
      rw [xh_up, if_pos rfl, up_up] at hcp
      obtain ⟨-, ⟨t1', t2', -, -, -, -, t7'⟩, -⟩ := id hX3
      rw [gup.1] at t2'
      rw [gup.2.2.1] at t7'
      have snt := s3.n1 hB (by decide) (by rw [m7]; omega) (by simp) q5.2.2.2.2.1 (by omega)
      have nn := (s3.2.2.2.1 _ (by rw [m7]; omega : xb_k h (dnt (wd W (gI (gx (D - 1))))) ≠ 0)).2
      refine ⟨_, t7', s3.2.2.2.1.k (c := 101) m7, ?_, ?_⟩
      · rw [z_in, show (xb_i h' (ad 15) 15).toInt = gA (gx (D - 1)) from t2']
        have e9 := f7.2.1
        show _ ∧ _ < ((xb_n h' (dnt (wd W (gI (gx (D - 1)))))) : Int)
        rw [nn, m8]
        omega
      · have hg3 : bgv ad h' rc rs bc bs := hg.st hB s3
        refine mc_call (n0 := n0) (A0 := gA (gx (D - 1))) s3.1 hW3 hS3 hcp hX (by rw [(s3.cm hB (by decide) (fun x hx => by cases hx) (k := 27) (by omega) (by decide)).2.1]; exact hn0) (fun _ => t2') y2 y1 (fun _ => ?_) hg3 (fun h2 own' ad' bc' bs' oc oe hq hcl _ => ?_)
        · rw [gup.1]
          show (xb_i h' (dnt (wd W (gI (gx (D - 1))))) _).toInt = x
          rw [z_cl, show (xb_i h' (ad 15) 15).toInt = gA (gx (D - 1)) from t2', Int.toNat_natCast, snt.1, m9]
          exact f7.2.2
        · unfold w_Machine_control_L407
          rw [yl] at hcl
          exact hQ h2 own' ad' bc' bs' oc oe (hq.pre hB s3 (by decide) nk3) ⟨skip 17 o17 4 (by omega), skip 17 o17 12 (by omega), skip 17 o17 13 (by omega), skip 17 o17 14 (by omega), skip 17 o17 15 (by omega), skip 17 o17 16 (by omega), fun _ => ⟨u, j, 0, f, _, f0, f3, f1, hc, yj, yce, .inr ⟨rfl, x, c, f7, by rw [eft], hcl⟩⟩, skip 17 o17 26 (by omega), skip 17 o17 27 (by omega), fun _ h9 => by omega⟩
  · -- 26: drop
    obtain ⟨r, c, hc, f1⟩ := hl.2.2.2.2.2.2.2.2.2.2.2.1 (by have := n 26 26 rfl e; omega)
    obtain ⟨p1, p2, p3, p4⟩ := hr.tp1 hS hc
    have hp := hr.pop hB hc p2
    rw [← e85] at hp
    have s3 : stp [15] [] own ad own ad h h85 := by rw [e85]; exact stp.Ic hB
    have i15 : xb_i h85 (ad 15) 15 = xb_i h (ad 15) 15 := by rw [e85, xh_iI, if_pos rfl, xh_up, if_neg (by omega)]
    unfold w_Machine_control_L407
    rw [e86]
    have o26 := n 26 26 rfl e
    have ho := (hp.at (z := xb_i h85 (ad 15) 15 + 1) (gs := gs) s3.1 (by rw [gup.2.1]; exact f1) (by rw [i15]; exact z_inc t2 (by have := (g0 _ _ _ f1).1.2.1; omega))).nk (h := h) ⟨by rw [e85, xh_lI], by rw [e85, xh_iI, if_pos rfl, xh_up, if_neg (by omega)], by rw [e85, xh_iI, if_neg n3615]⟩
    rw [gup.2.1, xh_up, if_pos rfl, up_up, show xb_l h85 = xb_l h by rw [e85, xh_lI]] at ho
    exact fin _ _ _ (s3.tr (stp.Ic s3.1)) (by simp) ho ⟨skip 26 o26 4 (by omega), skip 26 o26 12 (by omega), skip 26 o26 13 (by omega), skip 26 o26 14 (by omega), skip 26 o26 15 (by omega), skip 26 o26 16 (by omega), skip 26 o26 17 (by omega), fun _ => ⟨rfl, r, c, hc, rfl⟩, skip 26 o26 27 (by omega), fun _ h9 => by omega⟩
  · -- 27: select
    obtain ⟨r, c, hc, f1⟩ := hl.2.2.2.2.2.2.2.2.2.2.2.2.1 (by have := n 27 27 rfl e; omega)
    rw [hc] at t1 b6 b7
    simp only [List.length_cons] at t1 b7
    have z2 : (xb_i h (ad 15) 10 - 2).toInt = (gO (gx (D - 1)) + (r :: c).length : Nat) := by
      rw [z_sub, t1, show (2 : Int32).toInt = 2 from rfl, List.length_cons]
      omega
    have hp := hr.pops (pre := [127, r]) (c := r :: c) hB (by rw [hc]; rfl) z2
    rw [← e89] at hp
    have s3 : stp [15] [] own ad own ad h h89 := by rw [e89]; exact stp.Ic hB
    have i10 : xb_i h89 (ad 15) 10 = xb_i h (ad 15) 10 - 2 := by rw [e89, xh_iI, if_pos rfl, xh_up, if_pos rfl]
    have i15 : xb_i h89 (ad 15) 15 = xb_i h (ad 15) 15 := by rw [e89, xh_iI, if_pos rfl, xh_up, if_neg (by omega)]
    have n89 : xb_n h89 = xb_n h := by rw [e89, xh_nI]
    have l89 : xb_l h89 = xb_l h := by rw [e89, xh_lI]
    have r98 := s3.1.r (15, 9, 37) (by decide)
    have k38 : xb_k h89 (ad 37) = 103 := s3.1.k 37 (by omega)
    rw [← i10, List.length_cons] at z2
    have z3 : (xb_i h89 (ad 15) 10 + 1).toInt = (gO (gx (D - 1)) + c.length + 2 : Nat) := z_inc z2 (by omega)
    have z1 : (xb_i h89 (ad 15) 10 - 1).toInt = (gO (gx (D - 1)) + c.length : Nat) := by
      rw [z_sub, z2, show (1 : Int32).toInt = 1 from rfl]
      omega
    have hS3 := hS.st hB s3
    have o27 := n 27 27 rfl e
    have L389 : ∀ (h2 : xb_H) (C : List Nat) (gx2 : Nat → fG), stp C [] own ad own ad h h2 → (∀ k ∈ C, k = 15 ∨ k = 36 ∨ k = 37) → xb_i h2 (ad 15) 15 = xb_i h (ad 15) 15 → rX ad h2 W D gx2 t P lcn p0 E lo ν0 g G → gC (gx2 (D - 1)) = r :: c → nK ad h h2 → (∀ y, va_up gx2 (D - 1) (gT_ (gx2 (D - 1)) y (r :: c) gs) = va_up gx (D - 1) (gT_ (gx (D - 1)) y (r :: c) gs)) → xb_l h2 (ad 37) = (if xb_l h (ad 37) (gO (gx (D - 1)) + c.length + 2) = 0 then va_up (xb_l h (ad 37)) (gO (gx (D - 1)) + c.length) (xb_l h (ad 37) (gO (gx (D - 1)) + c.length + 1)) else xb_l h (ad 37)) → w_Machine_control_L389 Qr (ad 15) h2 bc bs := by
      intro h2 C gx2 s2 hC2 j15 hX2 hC3 nk2 hup hvl
      unfold w_Machine_control_L389 w_Machine_control_L407
      refine ⟨s2.1.k 15 (by omega), fun h5 e5' => ?_⟩
      rw [e5']
      have ho := (hX2.at (z := xb_i h2 (ad 15) 15 + 1) (gs := gs) s2.1 (by rw [hC3]; exact f1) (by rw [j15]; exact z_inc t2 (by have := (g0 _ _ _ f1).1.2.1; omega))).nk nk2
      rw [hC3, hup, hvl] at ho
      refine fin _ _ _ (s2.tr (stp.Ic s2.1)) (fun k hk => ?_) ho ⟨skip 27 o27 4 (by omega), skip 27 o27 12 (by omega), skip 27 o27 13 (by omega), skip 27 o27 14 (by omega), skip 27 o27 15 (by omega), skip 27 o27 16 (by omega), skip 27 o27 17 (by omega), skip 27 o27 26 (by omega), fun _ => ⟨rfl, r, c, hc, rfl⟩, fun _ h9 => by omega⟩
      rcases List.mem_append.mp hk with h9 | h9
      · exact hC2 k h9
      · simp at h9
        omega
    have nk89 : nK ad h h89 := ⟨by rw [l89], by rw [e89, xh_iI, if_pos rfl, xh_up, if_neg (by omega)], by rw [e89, xh_iI, if_neg n3615]⟩
    have hup1 : ∀ y, va_up (va_up gx (D - 1) (gR_ (gx (D - 1)) (gA (gx (D - 1))) (r :: c))) (D - 1) (gT_ (va_up gx (D - 1) (gR_ (gx (D - 1)) (gA (gx (D - 1))) (r :: c)) (D - 1)) y (r :: c) gs) = va_up gx (D - 1) (gT_ (gx (D - 1)) y (r :: c) gs) := fun y => by
      rw [up_up, xh_up, if_pos rfl]
      rfl
    refine ⟨ad 37, r98, k38, by rw [z_in, z3, n89]; omega, fun ev => L389 h89 _ _ s3 (by simp) i15 hp gup.2.1 nk89 hup1 ?_, fun ev => ⟨ad 37, r98, ad 37, r98, k38, by rw [z_in, z2, n89]; omega, k38, by rw [z_in, z1, n89]; omega, fun h100 e100 => ?_⟩⟩
    · rw [z_cl, z3, Int.toNat_natCast, l89] at ev
      rw [if_neg ev, l89]
    have hv : vr r (xb_l h89 (ad 37) (xb_i h89 (ad 15) 10).toNatClampNeg) := by
      rw [z_cl, z2, Int.toNat_natCast, l89]
      exact b6.2.1
    have hh := hp.n1 (τ := r) (τ' := r) (c := c) s3.1 gup.2.1 (p := (xb_i h89 (ad 15) 10 - 1).toNatClampNeg) (by rw [gup.2.2.2.1, z_cl, z1, Int.toNat_natCast]; rfl) hv
    rw [← e100] at hh
    rcases hh.2 with h9 | ⟨-, h9, hk9, hv9⟩
    · exact absurd rfl h9.1
    · refine L389 h100 _ _ (s3.tr hh.1) (by simp) (by rw [e100, xh_iL]; exact i15) h9 gup.2.1 (nk89.tr hk9) (fun y => ?_) ?_
      · rw [up_up, xh_up, if_pos rfl, xh_up, if_pos rfl, up_up]
        rfl
      · rw [z_cl, z3, Int.toNat_natCast, l89] at ev
        rw [if_pos ev, hv9, l89, gup.2.2.2.1, z_cl, z2, Int.toNat_natCast]
        rfl
end CO1

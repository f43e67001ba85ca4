-- a module becomes an instance: steps, and the instance itself
/-- components whose address may change -/
def itl : List Nat := [1, 6, 17, 20, 22, 24, 26, 28, 30, 31, 33, 35, 37]
/-- a step that changes the components in C and the addresses in X alone -/
def stp (C X : List Nat) (own ad own' ad' : Nat → Nat) (h h' : xb_H) : Prop :=
  cB own' ad' h' ∧ (∀ k, k ∉ C → ad' k = ad k) ∧ (∀ a, xb_k h a ≠ 0 → own' a = own a) ∧ xb_ext h h' ∧ (∀ a, xb_k h a ≠ 0 → a ∉ X → (∀ k ∈ C, a ≠ ad k) → xh_sm h h' a) ∧ (∀ k, ad' k = ad k ∨ xb_k h (ad' k) = 0) ∧ ∀ k, k ∉ itl → ad' k = ad k
section MK1
variable {own own' own2 ad ad' ad2 : Nat → Nat} {h h' h2 : xb_H} {W : wD} {σ : Nat} {C C2 X X2 : List Nat}
theorem stp.rf (hB : cB own ad h) : stp [] [] own ad own ad h h := ⟨hB, fun _ _ => rfl, fun _ _ => rfl, xb_ext.rf h, fun a _ _ _ => xh_sm.rf h a, fun _ => .inl rfl, fun _ _ => rfl⟩
theorem stp.tr (e1 : stp C X own ad own' ad' h h') (e2 : stp C2 X2 own' ad' own2 ad2 h' h2) : stp (C ++ C2) (X ++ X2) own ad own2 ad2 h h2 := by
  obtain ⟨a1, a2, a3, a4, a5, a6, a7⟩ := e1
  obtain ⟨b1, b2, b3, b4, b5, b6, b7⟩ := e2
  refine ⟨b1, fun k hk => ?_, fun a ha => (b3 a (ext_nz a4 ha)).trans (a3 a ha), a4.tr b4, fun a ha hx hc => ?_, fun k => ?_, fun k hk => (b7 k hk).trans (a7 k hk)⟩
  · rw [List.mem_append, not_or] at hk
    exact (b2 k hk.2).trans (a2 k hk.1)
  · rw [List.mem_append, not_or] at hx
    refine (a5 a ha hx.1 (fun k hk => hc k (List.mem_append_left _ hk))).tr (b5 a (ext_nz a4 ha) hx.2 (fun k hk => ?_))
    rcases a6 k with e | e
    · rw [e]
      exact hc k (List.mem_append_right _ hk)
    · exact fun e9 => ha (e9 ▸ e)
  · rcases b6 k with e | e
    · rw [e]
      exact a6 k
    · exact .inr (ext_z a4 e)
/-- what is fresh need not be named -/
theorem stp.dr (e1 : stp C X own ad own' ad' h h') (hX : ∀ x ∈ X, xb_k h x = 0) : stp C [] own ad own' ad' h h' := by
  obtain ⟨a1, a2, a3, a4, a5, a6⟩ := e1
  exact ⟨a1, a2, a3, a4, fun a ha _ hc => a5 a ha (fun h9 => ha (hX a h9)) hc, a6⟩
theorem stp.mono (e1 : stp C X own ad own' ad' h h') (hC : ∀ k ∈ C, k ∈ C2) (hX : ∀ k ∈ X, k ∈ X2) : stp C2 X2 own ad own' ad' h h' := by
  obtain ⟨a1, a2, a3, a4, a5, a6⟩ := e1
  exact ⟨a1, fun k hk => a2 k (fun h9 => hk (hC k h9)), a3, a4, fun a ha hx hc => a5 a ha (fun h9 => hx (hX a h9)) (fun k hk => hc k (hC k hk)), a6⟩
theorem stp.n1 (e1 : stp C X own ad own' ad' h h') (hB : cB own ad h) (hC : ∀ k ∈ C, k < 41) {a : Nat} (ha : xb_k h a ≠ 0) (hx : a ∉ X) {t : Nat} (ho : own a = t) (ht : t < 2 ∨ 42 < t) : xh_sm h h' a := e1.2.2.2.2.1 a ha hx (fun k hk => hB.nk (hC k hk) ho ht)
/-- a component that is not named stays -/
theorem stp.cm (e1 : stp C X own ad own' ad' h h') (hB : cB own ad h) (hC : ∀ k ∈ C, k < 41) (hX : ∀ x ∈ X, ∀ k, k < 41 → x ≠ ad k) {k : Nat} (hk : k < 41) (hn : k ∉ C) : ad' k = ad k ∧ xh_sm h h' (ad k) := by
  obtain ⟨a1, a2, a3, a4, a5, a6⟩ := e1
  exact ⟨a2 k hn, a5 _ (hB.z k hk) (fun h9 => hX _ h9 k hk rfl) (fun j hj => hB.ne hk (hC j hj) (fun e => hn (e ▸ hj)))⟩
theorem stp.row {r : Nat} (hr : r ∈ rwl) {q : Nat} (hB' : cB (rown own h q (r + 3)) (va_up ad (r + 1) q) h') (hq : q = ad (r + 1) ∨ xb_k h q = 0) (hf : ∀ a, xb_k h a ≠ 0 → a ≠ ad r → a ≠ ad (r + 1) → xh_sm h h' a) (he : xb_ext h h') : stp [r, r + 1] [] own ad (rown own h q (r + 3)) (va_up ad (r + 1) q) h h' := by
  refine ⟨hB', fun k hk => ?_, fun a ha => rown_old ha, he, fun a ha _ hc => hf a ha (hc r (by simp)) (hc (r + 1) (by simp)), fun k => ?_, fun k hk => ?_⟩
  · rw [xh_up, if_neg (fun e => hk (by rw [e]; simp))]
  · rw [xh_up]
    split
    · rename_i e
      rw [e]
      exact hq
    · exact .inl rfl
  · have : ∀ r ∈ rwl, r + 1 ∈ itl := by decide
    rw [xh_up, if_neg (fun e => hk (by rw [e]; exact this r hr))]
/-- new addresses -/
def nown (own : Nat → Nat) (q t : Nat) : Nat → Nat := fun a => if a = q then t else own a
theorem nown_ne {own : Nat → Nat} {q t a : Nat} (h : a ≠ q) : nown own q t a = own a := if_neg h
theorem nown_eq {own : Nat → Nat} {q t : Nat} : nown own q t q = t := if_pos rfl
theorem stp.new {q t kd n : Nat} (hB : cB own ad h) (hq : xb_k h q = 0) : stp [] [] own ad (nown own q t) ad h (xb_new h q kd n) := by
  have ne : ∀ k, k < 41 → ad k ≠ q := fun k hk e => hB.z k hk (e ▸ hq)
  refine ⟨⟨fun k hk => ⟨by rw [nown_ne (ne k hk)]; exact hB.o k hk, by rw [xh_kN, if_neg (ne k hk)]; exact hB.k k hk⟩, fun e he => ?_⟩, fun _ _ => rfl, fun a ha => nown_ne (fun e => ha (e ▸ hq)), xh_exN h _ _ hq, fun a ha _ _ => xh_smN h _ _ (fun e => ha (e ▸ hq)), fun _ => .inl rfl, fun _ _ => rfl⟩
  rw [xh_rN, if_neg (ne _ (cRl_lt e he).1)]
  exact hB.r e he
theorem stp.I {a k : Nat} {x : Int32} (hB : cB own ad h) : stp [] [a] own ad own ad h (xb_I h a k x) := ⟨hB, fun _ _ => rfl, fun _ _ => rfl, fun _ _ => ⟨rfl, rfl⟩, fun b _ hb _ => xh_smI _ _ _ (fun e => hb (by rw [e]; simp)), fun _ => .inl rfl, fun _ _ => rfl⟩
theorem stp.L {a k : Nat} {x : Int64} (hB : cB own ad h) : stp [] [a] own ad own ad h (xb_L h a k x) := ⟨hB, fun _ _ => rfl, fun _ _ => rfl, fun _ _ => ⟨rfl, rfl⟩, fun b _ hb _ => xh_smL _ _ _ (fun e => hb (by rw [e]; simp)), fun _ => .inl rfl, fun _ _ => rfl⟩
theorem stp.La {a : Nat} {f : Nat → Int64} (hB : cB own ad h) : stp [] [a] own ad own ad h (xb_La h a f) := ⟨hB, fun _ _ => rfl, fun _ _ => rfl, fun _ _ => ⟨rfl, rfl⟩, fun b _ hb _ => xh_smLa _ _ (fun e => hb (by rw [e]; simp)), fun _ => .inl rfl, fun _ _ => rfl⟩
theorem stp.P {a k : Nat} {x : Option Nat} (hB : cB own ad h) (ha : ∀ k, k < 41 → a ≠ ad k) : stp [] [a] own ad own ad h (xb_P h a k x) := by
  refine ⟨⟨hB.1, fun e he => ?_⟩, fun _ _ => rfl, fun _ _ => rfl, fun _ _ => ⟨rfl, rfl⟩, fun b _ hb _ => xh_smP _ _ _ (fun e => hb (by rw [e]; simp)), fun _ => .inl rfl, fun _ _ => rfl⟩
  rw [xh_rP, if_neg (fun e9 => ha _ (cRl_lt e he).1 e9.symm)]
  exact hB.r e he
/-- components' own numbers -/
theorem stp.Ic {c k : Nat} {x : Int32} (hB : cB own ad h) : stp [c] [] own ad own ad h (xb_I h (ad c) k x) := ⟨hB, fun _ _ => rfl, fun _ _ => rfl, fun _ _ => ⟨rfl, rfl⟩, fun b _ _ hb => xh_smI _ _ _ (hb c (by simp)), fun _ => .inl rfl, fun _ _ => rfl⟩
theorem stp.Lc {c k : Nat} {x : Int64} (hB : cB own ad h) : stp [c] [] own ad own ad h (xb_L h (ad c) k x) := ⟨hB, fun _ _ => rfl, fun _ _ => rfl, fun _ _ => ⟨rfl, rfl⟩, fun b _ _ hb => xh_smL _ _ _ (hb c (by simp)), fun _ => .inl rfl, fun _ _ => rfl⟩
/-- the new instance -/
theorem mk_init {q md n3 n5 rc rs bc bs : Nat} {x1 : Int32} {Qr : xb_H → Nat → Nat → Prop} {nF nV : Nat} (hB : cB own ad h) (kq : xb_k h q = 11) (oq : own q = 1) (hF : xr_row h (ad 32) 1 nF (ad 33)) (hV : xr_row h (ad 34) 1 nV (ad 35)) (hO : xr_row h (ad 19) 1 n3 (ad 20)) (hW : xr_row h (ad 21) 1 n5 (ad 22)) (hc : rc + 2 ≤ bc) (hs : rs + nF + nV ≤ bs)
    (hQ : ∀ (h' : xb_H) (own' : Nat → Nat) (fa va : Nat), stp [] [q] own ad own' ad h h' → xb_k h' q = 11 ∧ own' q = 1 → xb_i h' q 0 = x1 → xb_r h' q 1 = some md → (xb_r h' q 2 = some fa ∧ xb_k h' fa = 103 ∧ own' fa = 1 ∧ xb_n h' fa = nF ∧ ∀ j, j < nF → xb_l h' fa j = xb_l h (ad 33) j) → (xb_r h' q 3 = some va ∧ xb_k h' va = 103 ∧ own' va = 1 ∧ xb_n h' va = nV ∧ ∀ j, j < nV → xb_l h' va j = xb_l h (ad 35) j) → (xb_i h' q 4).toInt = n3 → (xb_i h' q 5).toInt = n5 → xb_r h' q 6 = xb_r h (ad 14) 14 → xb_r h' q 7 = xb_r h (ad 14) 15 → (xb_k h fa = 0 ∧ xb_k h va = 0) → Qr h' (bc - 2) (bs - (nF + nV))) : w_Instance_init q x1 md (ad 14) h bc bs Qr := by
  have nq : ∀ k, k < 41 → q ≠ ad k := fun k hk => hB.n1 hk oq
  have k14 : xb_k h (ad 14) = 7 := hB.k 14 (by omega)
  obtain ⟨f1, f2, f3, f4, f5, f6, f7, f8⟩ := id hF
  obtain ⟨v1, v2, v3, v4, v5, v6, v7, v8⟩ := id hV
  unfold w_Instance_init
  refine ⟨kq, fun h2 e2 h3 e3 => ?_⟩
  have i3 : ∀ a, a ≠ q → xb_i h3 a = xb_i h a := fun a ha => by rw [e3, e2, xh_iP, xh_iI, if_neg ha]
  have iq3 : xb_i h3 q = va_up (xb_i h q) 0 x1 := by rw [e3, e2, xh_iP, xh_iI, if_pos rfl]
  have r3 : ∀ a, a ≠ q → xb_r h3 a = xb_r h a := fun a ha => by rw [e3, e2, xh_rP, if_neg ha, xh_rI]
  have rq3 : xb_r h3 q = va_up (xb_r h q) 1 (some md) := by rw [e3, e2, xh_rP, if_pos rfl, xh_rI]
  have k3 : xb_k h3 = xb_k h := by rw [e3, e2]; rfl
  have n3' : xb_n h3 = xb_n h := by rw [e3, e2]; rfl
  have l3 : xb_l h3 = xb_l h := by rw [e3, e2]; rfl
  have s3 : stp [] [q] own ad own ad h h3 := by
    rw [e3, e2]
    exact ((stp.I hB).tr (stp.P hB nq)).mono (fun k hk => by simp at hk) (fun k hk => by simpa using hk)
  clear e2 e3
  have q14 : ad 14 ≠ q := (nq 14 (by omega)).symm
  have q32 : ad 32 ≠ q := (nq 32 (by omega)).symm
  have q34 : ad 34 ≠ q := (nq 34 (by omega)).symm
  refine ⟨by rw [k3]; exact k14, ad 32, by rw [r3 _ q14]; exact hB.r (14, 12, 32) (by decide), by rw [k3]; exact f1, ad 33, by rw [r3 _ q32]; exact f4, ad 32, by rw [r3 _ q14]; exact hB.r (14, 12, 32) (by decide), by rw [k3]; exact f1, ?_⟩
  have e32 : xb_i h3 (ad 32) 1 = xb_i h (ad 32) 1 := by rw [i3 _ q32]
  rw [e32]
  refine sp_copyOf1 (by rw [k3]; exact f5) (by omega) (by omega) (by rw [n3']; omega) (by omega) (by omega) (fun fa zfa gf g1 g2 _ h12 e12 => ?_)
  rw [f3, Int.toNat_natCast] at e12 ⊢
  have fz : xb_k h fa = 0 := by rw [k3] at zfa; exact zfa
  have qf : q ≠ fa := fun e => by rw [← e, kq] at fz; cases fz
  have nf_ : ∀ a, xb_k h a ≠ 0 → a ≠ fa := fun a ha e => ha (e ▸ fz)
  have k12 : ∀ a, xb_k h12 a = if a = fa then 103 else xb_k h a := fun a => by rw [e12, xh_kP, xh_kLa, xh_kN, k3]
  have n12 : ∀ a, xb_n h12 a = if a = fa then nF else xb_n h a := fun a => by rw [e12, xh_nP, xh_nLa, xh_nN, n3']
  have i12 : ∀ a, a ≠ fa → xb_i h12 a = xb_i h3 a := fun a ha => by rw [e12, xh_iP, xh_iLa, xh_iN, if_neg ha]
  have l12 : ∀ a, a ≠ fa → xb_l h12 a = xb_l h a := fun a ha => by rw [e12, xh_lP, xh_lLa, if_neg ha, xh_lN, if_neg ha, l3]
  have lf12 : xb_l h12 fa = gf := by rw [e12, xh_lP, xh_lLa, if_pos rfl]
  have r12 : ∀ a, a ≠ fa → a ≠ q → xb_r h12 a = xb_r h a := fun a ha hb => by rw [e12, xh_rP, if_neg hb, xh_rLa, xh_rN, if_neg ha, r3 a hb]
  have rq12 : xb_r h12 q = va_up (va_up (xb_r h q) 1 (some md)) 2 (some fa) := by rw [e12, xh_rP, if_pos rfl, xh_rLa, xh_rN, if_neg qf, rq3]
  have s12 : stp [] [q, fa] own ad (nown own fa 1) ad h h12 := by
    rw [e12]
    have t1 := stp.new (t := 1) (kd := 103) (n := nF) s3.1 zfa
    have t2 := stp.La (a := fa) (f := gf) t1.1
    have t3 := stp.P (a := q) (k := 2) (x := some fa) t2.1 nq
    exact (((s3.tr t1).tr t2).tr t3).mono (fun k hk => by simp at hk) (fun k hk => by simp at hk ⊢; omega)
  clear e12
  have z : ∀ k, k < 41 → ad k ≠ fa := fun k hk => nf_ _ (hB.z k hk)
  refine ⟨ad 34, by rw [r12 _ (z 14 (by omega)) q14]; exact hB.r (14, 13, 34) (by decide), by rw [k12, if_neg (z 34 (by omega))]; exact v1, ad 35, by rw [r12 _ (z 34 (by omega)) q34]; exact v4, ad 34, by rw [r12 _ (z 14 (by omega)) q14]; exact hB.r (14, 13, 34) (by decide), by rw [k12, if_neg (z 34 (by omega))]; exact v1, ?_⟩
  have e34 : xb_i h12 (ad 34) 1 = xb_i h (ad 34) 1 := by rw [i12 _ (z 34 (by omega)), i3 _ q34]
  rw [e34]
  refine sp_copyOf1 (by rw [k12, if_neg (z 35 (by omega))]; exact v5) (by omega) (by omega) (by rw [n12, if_neg (z 35 (by omega))]; omega) (by omega) (by omega) (fun va zva gv g3 g4 _ h20 e20 => ?_)
  rw [v3, Int.toNat_natCast] at e20 ⊢
  have vf_ : va ≠ fa := fun e => by rw [e, k12, if_pos rfl] at zva; cases zva
  have vz : xb_k h va = 0 := by rw [k12, if_neg vf_] at zva; exact zva
  have qv : q ≠ va := fun e => by rw [← e, kq] at vz; cases vz
  have zv : ∀ k, k < 41 → ad k ≠ va := fun k hk e => hB.z k hk (e ▸ vz)
  have k20 : ∀ a, xb_k h20 a = if a = va then 103 else xb_k h12 a := fun a => by rw [e20, xh_kP, xh_kLa, xh_kN]
  have n20 : ∀ a, xb_n h20 a = if a = va then nV else xb_n h12 a := fun a => by rw [e20, xh_nP, xh_nLa, xh_nN]
  have i20 : ∀ a, a ≠ va → xb_i h20 a = xb_i h12 a := fun a ha => by rw [e20, xh_iP, xh_iLa, xh_iN, if_neg ha]
  have l20 : ∀ a, a ≠ va → xb_l h20 a = xb_l h12 a := fun a ha => by rw [e20, xh_lP, xh_lLa, if_neg ha, xh_lN, if_neg ha]
  have lv20 : xb_l h20 va = gv := by rw [e20, xh_lP, xh_lLa, if_pos rfl]
  have r20 : ∀ a, a ≠ va → a ≠ q → xb_r h20 a = xb_r h12 a := fun a ha hb => by rw [e20, xh_rP, if_neg hb, xh_rLa, xh_rN, if_neg ha]
  have rq20 : xb_r h20 q = va_up (xb_r h12 q) 3 (some va) := by rw [e20, xh_rP, if_pos rfl, xh_rLa, xh_rN, if_neg qv]
  have s20 : stp [] [q, fa, va] own ad (nown (nown own fa 1) va 1) ad h h20 := by
    rw [e20]
    have t1 := stp.new (t := 1) (kd := 103) (n := nV) s12.1 zva
    have t2 := stp.La (a := va) (f := gv) t1.1
    have t3 := stp.P (a := q) (k := 3) (x := some va) t2.1 nq
    exact (((s12.tr t1).tr t2).tr t3).mono (fun k hk => by simp at hk) (fun k hk => by simp at hk ⊢; omega)
  clear e20
  have rr : ∀ k, k < 41 → xb_r h20 (ad k) = xb_r h (ad k) := fun k hk => by rw [r20 _ (zv k hk) (nq k hk).symm, r12 _ (z k hk) (nq k hk).symm]
  have ii : ∀ k, k < 41 → xb_i h20 (ad k) = xb_i h (ad k) := fun k hk => by rw [i20 _ (zv k hk), i12 _ (z k hk), i3 _ (nq k hk).symm]
  have kk : ∀ k, k < 41 → xb_k h20 (ad k) = kdl k := fun k hk => s20.1.k k hk
  refine ⟨ad 19, by rw [rr 14 (by omega)]; exact hB.r (14, 2, 19) (by decide), kk 19 (by omega), fun h23 e23 => ⟨ad 21, by rw [e23, xh_rI, rr 14 (by omega)]; exact hB.r (14, 3, 21) (by decide), by rw [e23]; exact kk 21 (by omega), fun h26 e26 h27 e27 h28 e28 => ?_⟩⟩
  have q19 : ad 19 ≠ q := (nq 19 (by omega)).symm
  have q21 : ad 21 ≠ q := (nq 21 (by omega)).symm
  rw [ii 19 (by omega)] at e23
  have e5 : xb_i h23 (ad 21) 1 = xb_i h (ad 21) 1 := by rw [e23, xh_iI, if_neg q21, ii 21 (by omega)]
  rw [e5] at e26
  have e14 : xb_r h26 (ad 14) 14 = xb_r h (ad 14) 14 := by rw [e26, xh_rI, e23, xh_rI, rr 14 (by omega)]
  rw [e14] at e27
  have e15 : xb_r h27 (ad 14) 15 = xb_r h (ad 14) 15 := by rw [e27, xh_rP, if_neg q14, e26, xh_rI, e23, xh_rI, rr 14 (by omega)]
  rw [e15] at e28
  have hE : bc - 1 - 1 = bc - 2 := by omega
  have hE2 : bs - nF - nV = bs - (nF + nV) := by omega
  rw [hE, hE2]
  have k28 : xb_k h28 = xb_k h20 := by rw [e28, e27, e26, e23]; rfl
  have n28 : xb_n h28 = xb_n h20 := by rw [e28, e27, e26, e23]; rfl
  have l28 : xb_l h28 = xb_l h20 := by rw [e28, e27, e26, e23]; rfl
  have iq28 : xb_i h28 q = va_up (va_up (xb_i h20 q) 4 (xb_i h (ad 19) 1)) 5 (xb_i h (ad 21) 1) := by rw [e28, xh_iP, e27, xh_iP, e26, xh_iI, if_pos rfl, e23, xh_iI, if_pos rfl]
  have rq28 : xb_r h28 q = va_up (va_up (xb_r h20 q) 6 (xb_r h (ad 14) 14)) 7 (xb_r h (ad 14) 15) := by rw [e28, xh_rP, if_pos rfl, e27, xh_rP, if_pos rfl, e26, xh_rI, e23, xh_rI]
  have s28 : stp [] [q, fa, va] own ad (nown (nown own fa 1) va 1) ad h h28 := by
    rw [e28, e27, e26, e23]
    have t1 := stp.I (a := q) (k := 4) (x := xb_i h (ad 19) 1) s20.1
    have t2 := stp.I (a := q) (k := 5) (x := xb_i h (ad 21) 1) t1.1
    have t3 := stp.P (a := q) (k := 6) (x := xb_r h (ad 14) 14) t2.1 nq
    have t4 := stp.P (a := q) (k := 7) (x := xb_r h (ad 14) 15) t3.1 nq
    exact ((((s20.tr t1).tr t2).tr t3).tr t4).mono (fun k hk => by simp at hk) (fun k hk => by simp at hk ⊢; omega)
  have iq20 : xb_i h20 q = va_up (xb_i h q) 0 x1 := by rw [i20 _ qv, i12 _ qf, iq3]
  have hs : stp [] [q] own ad (nown (nown own fa 1) va 1) ad h h28 := by
    obtain ⟨a1, a2, a3, a4, a5, a6⟩ := s28
    refine ⟨a1, a2, a3, a4, fun a ha hx hc => a5 a ha (fun h9 => ?_) hc, a6⟩
    simp only [List.mem_cons, List.not_mem_nil, or_false] at h9 hx
    rcases h9 with h9 | h9 | h9
    · exact hx h9
    · exact ha (h9 ▸ fz)
    · exact ha (h9 ▸ vz)
  refine hQ h28 _ fa va hs ⟨?_, ?_⟩ ?_ ?_ ⟨?_, ?_, ?_, ?_, fun j hj => ?_⟩ ⟨?_, ?_, ?_, ?_, fun j hj => ?_⟩ ?_ ?_ ?_ ?_ ⟨fz, vz⟩
  · rw [k28, k20, if_neg qv, k12, if_neg qf]; exact kq
  · rw [nown_ne qv, nown_ne qf]; exact oq
  · rw [iq28, xh_up, if_neg (by omega), xh_up, if_neg (by omega), iq20, xh_up, if_pos rfl]
  · rw [rq28, xh_up, if_neg (by omega), xh_up, if_neg (by omega), rq20, xh_up, if_neg (by omega), rq12, xh_up, if_neg (by omega), xh_up, if_pos rfl]
  · rw [rq28, xh_up, if_neg (by omega), xh_up, if_neg (by omega), rq20, xh_up, if_neg (by omega), rq12, xh_up, if_pos rfl]
  · rw [k28, k20, if_neg vf_.symm, k12, if_pos rfl]
  · rw [nown_ne vf_.symm, nown_eq]
  · rw [n28, n20, if_neg vf_.symm, n12, if_pos rfl]
  · rw [l28, l20 _ vf_.symm, lf12, g1 j (by rw [n3']; omega) (by omega), l3]
  · rw [rq28, xh_up, if_neg (by omega), xh_up, if_neg (by omega), rq20, xh_up, if_pos rfl]
  · rw [k28, k20, if_pos rfl]
  · rw [nown_eq]
  · rw [n28, n20, if_pos rfl]
  · rw [l28, lv20, g3 j (by rw [n12, if_neg (z 35 (by omega))]; omega) (by omega), l12 _ (z 35 (by omega))]
  · rw [iq28, xh_up, if_neg (by omega), xh_up, if_pos rfl]; exact hO.2.2.1
  · rw [iq28, xh_up, if_pos rfl]; exact hW.2.2.1
  · rw [rq28, xh_up, if_neg (by omega), xh_up, if_pos rfl]
  · rw [rq28, xh_up, if_pos rfl]
end MK1

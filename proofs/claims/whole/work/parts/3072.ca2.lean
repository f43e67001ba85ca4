-- the checker: a module as a whole
/-- a module that is valid: what its rows hold; sf, sa: its start and the place of it -/
def mv (N : Nat) (n : Nat → Nat) (vs : Nat → Nat → Int64) (cb ν iv : Nat → Int32) (sf sa : Int) : Prop :=
  (xr_L 5 (mp0 N cb) (n 0) (vs 0) ∧ ∀ i, i < n 0 / 5 → (vs 0 (5 * i + 3)).toInt ≤ 1) ∧
  (xr_L 7 (mp1 N (vs 1)) (n 1) (vs 1) ∧ (∀ κ, κ < 4 → (iv κ).toInt = mcnt (vs 1) κ (n 1 / 7)) ∧ md_Q n iv) ∧
  ((∃ m, n 2 = 2 * m) ∧ ∀ i, i < n 2 / 2 → 0 ≤ (vs 2 (2 * i + 1)).toInt ∧ (vs 2 (2 * i + 1)).toInt < (n 0 / 5 : Nat)) ∧
  (xr_L 3 (mp3 N) (n 3) (vs 3) ∧ n 3 / 3 ≤ 1) ∧
  (xr_L 3 (mp3 N) (n 4) (vs 4) ∧ n 4 / 3 ≤ 1 ∧ (0 < n 4 / 3 → (vs 4 1).toInt ≤ 65536 ∧ (vs 4 2).toInt ≤ 65536 ∧ ((vs 4 2).toInt = -1 ∨ (vs 4 1).toInt ≤ (vs 4 2).toInt))) ∧
  ((∃ m, n 5 = 4 * m) ∧ ∀ i, i < n 5 / 4 → (124 ≤ (vs 5 (4 * i + 1)).toInt ∧ (vs 5 (4 * i + 1)).toInt ≤ 127 ∧ ((vs 5 (4 * i + 2)).toInt = 0 ∨ (vs 5 (4 * i + 2)).toInt = 1)) ∧ ((iv 3).toInt ≤ i → ∃ p : Nat, (vs 5 (4 * i + 3)).toInt = p ∧ ck_ex N cb ν (vs 5) (iv 3).toInt p (vs 5 (4 * i + 1)).toInt)) ∧
  (xr_L 5 (mp6 N) (n 6) (vs 6) ∧ ∀ i, i < n 6 / 5 → ((vs 6 (5 * i + 1)).toInt = 0 → (vs 6 (5 * i + 2)).toInt < (n 2 / 2 : Nat)) ∧ ((vs 6 (5 * i + 1)).toInt = 1 → (vs 6 (5 * i + 2)).toInt < (n 3 / 3 : Nat)) ∧ ((vs 6 (5 * i + 1)).toInt = 2 → (vs 6 (5 * i + 2)).toInt < (n 4 / 3 : Nat)) ∧ ((vs 6 (5 * i + 1)).toInt = 3 → (vs 6 (5 * i + 2)).toInt < (n 5 / 4 : Nat))) ∧
  ((∃ m, n 7 = 5 * m) ∧ ∀ i, i < n 7 / 5 → (0 ≤ (vs 7 (5 * i + 1)).toInt ∧ (vs 7 (5 * i + 1)).toInt < (n 3 / 3 : Nat)) ∧ (∃ p : Nat, (vs 7 (5 * i + 2)).toInt = p ∧ ck_ex N cb ν (vs 5) (iv 3).toInt p 127) ∧ (0 ≤ (vs 7 (5 * i + 3)).toInt ∧ 0 ≤ (vs 7 (5 * i + 4)).toInt ∧ 2 * ((vs 7 (5 * i + 3)).toInt + (vs 7 (5 * i + 4)).toInt) ≤ n 8) ∧ ∀ j : Nat, (j : Int) < (vs 7 (5 * i + 4)).toInt → ∃ q : Nat, (q : Int) = (vs 7 (5 * i + 3)).toInt + j ∧ 0 ≤ (vs 8 (2 * q + 1)).toInt ∧ (vs 8 (2 * q + 1)).toInt < (n 2 / 2 : Nat)) ∧
  ((∃ m, n 8 = 2 * m) ∧ (∃ m, n 9 = 5 * m) ∧ (n 9 : Int) * 2 + 5 * (2 * (iv 0).toInt) = 5 * n 2 ∧ ∃ en, ∀ b, b < n 9 / 5 → bd_ok N en n vs cb ν iv b) ∧
  ((∃ m, n 11 = 5 * m) ∧ ∀ i, i < n 11 / 5 → (0 ≤ (vs 11 (5 * i + 1)).toInt ∧ (vs 11 (5 * i + 1)).toInt < (n 4 / 3 : Nat)) ∧ (∃ p : Nat, (vs 11 (5 * i + 2)).toInt = p ∧ ck_ex N cb ν (vs 5) (iv 3).toInt p 127) ∧ 0 ≤ (vs 11 (5 * i + 3)).toInt ∧ 0 ≤ (vs 11 (5 * i + 4)).toInt ∧ (vs 11 (5 * i + 3)).toInt + (vs 11 (5 * i + 4)).toInt ≤ N) ∧
  (sf = -1 ∨ ∃ f : Nat, sf = f ∧ f < n 2 / 2 ∧ ∃ t : Nat, (vs 2 (2 * f + 1)).toInt = t ∧ (vs 0 (5 * t + 2)).toInt = 0 ∧ (vs 0 (5 * t + 4)).toInt = 64) ∧ (∀ k, k < 12 → n k ≤ 2 * N) ∧ N ≤ 65536 ∧ ∀ j, -128 ≤ (cb j).toInt ∧ (cb j).toInt ≤ 127
theorem mcnt_ex {v : Nat → Int64} {κ : Int} : ∀ (m j : Nat), j < mcnt v κ m → ∃ i, i < m ∧ (v (7 * i + 1)).toInt = κ ∧ mcnt v κ i = j
  | 0, j, h => by cases h
  | m + 1, j, h => by
    unfold mcnt at h
    by_cases h1 : j < mcnt v κ m
    · obtain ⟨i, h2, h3⟩ := mcnt_ex m j h1
      exact ⟨i, by omega, h3⟩
    · split at h
      · rename_i h2
        exact ⟨m, by omega, h2, by omega⟩
      · omega
section CA2
variable {S : Nat → Prop} {h0 h : xb_H} {md rd op ck cd nt im N oa rc rs : Nat} {ca : Nat → Nat} {rw it n : Nat → Nat} {vs vs' : Nat → Nat → Int64} {cb ν ν' ν0 iv lo : Nat → Int32} {R0 F : Nat → Nat → Int32} {bc bs : Nat} {Qt : String → xb_H → Nat → Nat → Prop} {en : Nat → Nat → Nat}
/-- what stands in a constant's notes is as it was read -/
theorem ck_ex.fin {k i p m : Nat} {v5 : Nat → Int64} {k3 τ : Int} (hJ : md_DJ en n vs iv) (hV : md_V n vs iv k i p) (hk : k ≠ 9) (hw : wk cb ν (en k i) m p []) (h9 : ∀ b, b < n 9 / 5 → 5 * b + 5 ≤ n 9) (hν : ∀ j : Nat, (∀ b, b < n 9 / 5 → (j : Int) < (vs 9 (5 * b)).toInt ∨ en 9 b ≤ j) → ν' j = ν j) (hby : ∀ j, -128 ≤ (cb j).toInt ∧ (cb j).toInt ≤ 127) (h : ck_ex N cb ν v5 k3 p τ) : ck_ex N cb ν' v5 k3 p τ := by
  obtain ⟨h1, h2⟩ := h
  refine ⟨h1, ?_⟩
  rcases h2 with ⟨h2, i', h3, h4⟩ | h2
  · refine .inl ⟨h2, i', ?_, h4⟩
    obtain ⟨q, -, q2, q3⟩ := hw.first (by rw [h2]; decide)
    have q4 := q2.1
    rw [hν (p + 1) (fun b hb => ?_)]
    · exact h3
    · rcases hJ k i p 9 b (vs 9 (5 * b)).toInt hV ⟨.inr (.inr (.inl rfl)), h9 b hb, fun e => by omega, rfl⟩ (fun e => hk e.1) with h8 | h8
      · exact .inl (by omega)
      · exact .inr (by omega)
  · exact .inr h2
theorem ck_all {Qr : xb_H → Nat → Nat → Prop} (hT : ck_T S h0 md rd op ck ca rc rs Qt) (hX : ck_X S h0 h md rd op ck ca) (hM : md_M h md cd nt im N rw it n vs cb ν iv) (hI : md_D N cb n vs ν iv) (hr : xb_r h ck 0 = some md ∧ xb_r h ck 1 = some cd ∧ xb_r h ck 2 = some nt ∧ xb_r h ck 3 = some oa) (ko : xb_k h oa = 100) (hoN : N < xb_n h oa) (ho2 : xb_n h oa ≤ 1000000) (hoS : S oa ∨ xb_k h0 oa = 0) (hS : S ck ∧ ¬ S md)
    (hc : rc + 1 ≤ bc) (hb : rs + 6 ≤ bs) (hby : ∀ j, -128 ≤ (cb j).toInt ∧ (cb j).toInt ≤ 127) (hD : ck_D ck oa nt cd im ca rw) (hit : ∀ i j, i < 12 → j < 12 → it i = it j → i = j) (h09 : xb_k h0 (it 9) = 0) (h0nt : xb_k h0 nt = 0) (h0rw : ∀ k, k < 12 → xb_k h0 (rw k) = 0) (hst : (xb_i h md 16).toInt = -1 → (xb_i h md 15).toInt = -1)
    (hQ : ∀ (h' : xb_H) (vs' : Nat → Nat → Int64) (ν' : Nat → Int32), ck_X S h0 h' md rd op ck ca → md_M h' md cd nt im N rw it n vs' cb ν' iv → mv N n vs' cb ν' iv (xb_i h' md 15).toInt (xb_i h' md 16).toInt → xb_r h' = xb_r h → xb_ext h h' → Qr h' bc bs) : w_Checker_checkAll_L47 Qr Qt ck h bc bs := by
  obtain ⟨hI1, hq, hn9⟩ := id hI
  obtain ⟨en, hJ⟩ := id hI1
  obtain ⟨J0, J1, J2, J3, J4, J5, J6, J7, J8, J9, J10, J11, J12, J13, J14, J15, J16, J17⟩ := id hJ
  have hG : ck_G S h0 h md rd op ck cd nt im N ca rw it n vs cb ν iv rc rs bc bs := ⟨hX, hM, ⟨hr.1, hr.2.1, hr.2.2.1⟩, hc, hb⟩
  have hN := hM.2.2.2.2
  have NN := Nat.le_refl N
  have q0 := hq.1
  have hmd : xb_k h md = 3 := hX.2.2.1
  unfold w_Checker_checkAll_L47
  refine ⟨hG.kck, ck_checkTypes hT hG J0 (J13 0 (by omega)) (fun T1 _ => ck_checkImports hT hG hI1 NN hq (fun I1 _ => ck_checkOwn hT hG hI1 NN NN hq hby (fun O1 O2 O3 O4 _ => ck_checkExports hT hG hI1 NN (fun X1 _ => ?_))))⟩
  have imp : ∀ (κ j : Nat), κ < 4 → (j : Int) < (iv κ).toInt → ∃ i, i < n 1 / 7 ∧ (vs 1 (7 * i + 1)).toInt = κ ∧ (vs 1 (7 * i + 2)).toInt = j := fun κ j hκ hj => by
    rw [J12 κ hκ] at hj
    obtain ⟨i, e1, e2, e3⟩ := mcnt_ex (v := vs 1) (κ := (κ : Int)) (n 1 / 7) j (by omega)
    obtain ⟨⟨-, -, -, -, w2, -⟩, -⟩ := J1.at (by omega) e1
    dsimp only at w2
    rw [e2, e3] at w2
    exact ⟨i, e1, e2, w2⟩
  have hfn : ∀ i, i < n 2 / 2 → 0 ≤ (vs 2 (2 * i + 1)).toInt ∧ (vs 2 (2 * i + 1)).toInt < (n 0 / 5 : Nat) := fun i hi => by
    by_cases h9 : (i : Int) < (iv 0).toInt
    · obtain ⟨k, e1, e2, e3⟩ := imp 0 i (by omega) h9
      obtain ⟨f, g1, g2, g3⟩ := (I1 k e1).1 e2
      have e4 : f = i := by omega
      rw [e4] at g2 g3
      exact ⟨g2, g3⟩
    · exact O1 i hi (by omega)
  have htb : n 3 / 3 ≤ 1 := by
    rcases Nat.lt_or_ge 1 (n 3 / 3) with h9 | h9
    · by_cases h8 : (1 : Int) < (iv 1).toInt
      · obtain ⟨k, e1, e2, e3⟩ := imp 1 1 (by omega) h8
        have := (I1 k e1).2.1 e2
        omega
      · have := O2 1 h9 (by omega)
        omega
    · exact h9
  have hmm : n 4 / 3 ≤ 1 ∧ (0 < n 4 / 3 → (vs 4 1).toInt ≤ 65536 ∧ (vs 4 2).toInt ≤ 65536 ∧ ((vs 4 2).toInt = -1 ∨ (vs 4 1).toInt ≤ (vs 4 2).toInt)) := by
    refine ⟨?_, fun h9 => ?_⟩
    · rcases Nat.lt_or_ge 1 (n 4 / 3) with h9 | h9
      · by_cases h8 : (1 : Int) < (iv 2).toInt
        · obtain ⟨k, e1, e2, e3⟩ := imp 2 1 (by omega) h8
          have := ((I1 k e1).2.2 e2).1
          omega
        · have := (O3 1 h9 (by omega)).1
          omega
      · exact h9
    · by_cases h8 : (0 : Int) < (iv 2).toInt
      · obtain ⟨k, e1, e2, e3⟩ := imp 2 0 (by omega) h8
        exact ((I1 k e1).2.2 e2).2
      · exact (O3 0 h9 (by omega)).2
  refine ck_checkStart hT hG hI1 NN hfn (fun S1 _ => ck_checkElements hT hG hI1 NN NN hq hby (fun E1 _ => ck_checkData hT hG hI1 NN NN hq hby (fun D1 _ => ⟨n 9 / 5 + 1, ?_⟩)))
  obtain ⟨mM1, mM2, mM3, mM4, mM5⟩ := id hM
  have hHH : ck_H S h0 h md rd op ck cd nt im N oa ca rw it n vs cb iv (fun k => xb_i h (rw k)) := by
    obtain ⟨x1, x2, x3, x4, x5, x6, x7, x8⟩ := id hX
    refine ⟨fun F hF => ?_, fun F ν2 e1 e2 e3 e4 => ?_, ⟨hr.1, hr.2.1, hr.2.2.1, hr.2.2.2, ko, hoN, ho2⟩, hD, ⟨hS.1, ?_, h0nt, ?_⟩, x6, x3, x8, hN, mM2.2.1, mM2.2.2.1, mM1.2.2.1, mM1.2.2.2.1⟩
    · refine ⟨x1, fun a ha hs => ?_, x3, x4, x5, x6, x7, x8⟩
      obtain ⟨y1, y2, y3⟩ := x2 a ha hs
      exact ⟨(hF a (.inl ha) hs).trans y1, y2, y3⟩
    · refine ⟨⟨mM1.1, mM1.2.1, mM1.2.2.1, mM1.2.2.2.1, e2⟩, ⟨mM2.1, mM2.2.1, mM2.2.2.1, e1⟩, fun k hk => ?_, ⟨mM4.1, mM4.2.1, mM4.2.2.1, e3⟩, mM5⟩
      obtain ⟨y1, ⟨z1, z2, z3, z4, z5, z6, z7, z8⟩, y3⟩ := mM3 k hk
      exact ⟨y1, ⟨z1, by rw [xW_i, e4 k hk]; exact z2, by rw [xW_i, e4 k hk]; exact z3, z4, z5, z6, z7, z8⟩, y3⟩
    · rcases hoS with h9 | h9
      · exact .inl h9
      · exact .inr ⟨h9, by rw [ko]; omega⟩
    · rw [mM2.2.1]
      omega
  have h9' : ∀ b, b < n 9 / 5 → 5 * b + 5 ≤ n 9 := fun b hb => (J9.at (by omega) hb).2
  have hself : h = xb_W h (xb_i h) := rfl
  rw [hself]
  refine cs_bodies hT hc hb hby hit h09 hJ hn9 hfn hN (R0 := fun k => xb_i h (rw k)) (h := h) ?_ (n 9 / 5) 0 0 h (xb_i h) vs ν rfl (by omega) (by omega) hHH (fun a _ _ => rfl) ⟨mM2.2.2.2, mM1.2.2.2.2, mM4.2.2.2, fun k hk => rfl⟩ (fun k hk => rfl) (fun j _ => rfl) (fun j _ => rfl) (fun b hb => (by omega)) ⟨rfl, rfl, rfl, rfl⟩
  intro h1 F vs1 ν1 hH1 hF1 hS1 gk g9 gν gb ⟨gi, gr, gkk, gn⟩
  have hmd1 : F md = xb_i h md := by
    have k1 : xb_k h1 md = 3 := (hH1.S0 hS1).1.1
    rw [hF1 md (.inr k1) hS.2, gi]
  have hext : xb_ext h h1 := fun a _ => ⟨by rw [gkk], by rw [gn]⟩
  have v9 : ∀ b j, j < 4 → vs1 9 (5 * b + j) = vs 9 (5 * b + j) := fun b j hj => g9 _ (fun b' _ e => by omega)
  refine hQ _ vs1 ν1 (hH1.1 F hF1) (hH1.S0 hS1) ⟨?_, ?_, ?_, ?_, ?_, ?_, ?_, ?_, ?_, ?_, ?_, J13, hN, hby⟩ gr hext
  · rw [gk 0 (by omega)]
    exact ⟨J0, T1⟩
  · rw [gk 1 (by omega)]
    exact ⟨J1, J12, hq⟩
  · rw [gk 2 (by omega)]
    obtain ⟨m2, z2, -⟩ := J2
    exact ⟨⟨m2, z2⟩, hfn⟩
  · rw [gk 3 (by omega)]
    exact ⟨J3, htb⟩
  · rw [gk 4 (by omega)]
    exact ⟨J4, hmm⟩
  · rw [gk 5 (by omega)]
    obtain ⟨m5, z5, -⟩ := id J5
    refine ⟨⟨m5, z5⟩, fun i hi => ?_⟩
    obtain ⟨⟨u0, u1, u2, u3, u4, -, u6⟩, u5⟩ := J5.at (by omega) hi
    refine ⟨⟨u2, u3, u4⟩, fun h9 => ?_⟩
    obtain ⟨p, e1, e2⟩ := O4 i hi h9
    obtain ⟨p', mm, y1, y2, y3, y4⟩ := u6 h9
    dsimp only at y1
    have ep : p' = p := by omega
    subst ep
    exact ⟨p', e1, e2.fin J17 (k := 5) (i := i) ⟨.inl rfl, u5, fun _ => h9, e1⟩ (by omega) y4 h9' gν hby⟩
  · rw [gk 6 (by omega)]
    exact ⟨J6, X1⟩
  · rw [gk 7 (by omega), gk 5 (by omega), gk 8 (by omega)]
    obtain ⟨m7, z7, -⟩ := id J7
    refine ⟨⟨m7, z7⟩, fun i hi => ?_⟩
    obtain ⟨⟨u0, u1, u2, u3, u4, u6, u7, u8⟩, u5⟩ := J7.at (by omega) hi
    dsimp only at u2 u4 u6 u7 u8
    obtain ⟨e1, ⟨p, e2, e3⟩, e4⟩ := E1 i hi
    obtain ⟨p', mm, y1, y2, y3, y4⟩ := u4
    have ep : p' = p := by omega
    subst ep
    exact ⟨⟨u2, e1⟩, ⟨p', e2, e3.fin J17 (k := 7) (i := i) ⟨.inr (.inl rfl), u5, fun e => by omega, e2⟩ (by omega) y4 h9' gν hby⟩, ⟨u6, u7, u8⟩, e4⟩
  · obtain ⟨m8, z8, -⟩ := id J8
    obtain ⟨m9, z9, -⟩ := id J9
    exact ⟨⟨m8, z8⟩, ⟨m9, z9⟩, hn9, en, gb⟩
  · rw [gk 11 (by omega), gk 5 (by omega)]
    obtain ⟨m7, z7, -⟩ := id J11
    refine ⟨⟨m7, z7⟩, fun i hi => ?_⟩
    obtain ⟨⟨u0, u1, u2, u3, u4, u6, u7, u8⟩, u5⟩ := J11.at (by omega) hi
    dsimp only at u2 u4 u6 u7 u8
    obtain ⟨e1, p, e2, e3⟩ := D1 i hi
    obtain ⟨p', mm, y1, y2, y3, y4⟩ := u4
    have ep : p' = p := by omega
    subst ep
    exact ⟨⟨u2, e1⟩, ⟨p', e2, e3.fin J17 (k := 11) (i := i) ⟨.inr (.inr (.inr rfl)), u5, fun e => by omega, e2⟩ (by omega) y4 h9' gν hby⟩, u6, u7, u8⟩
  · rw [gk 2 (by omega), gk 0 (by omega)]
    show (F md 15).toInt = -1 ∨ ∃ f : Nat, (F md 15).toInt = f ∧ _
    rw [hmd1]
    rcases S1 with h9 | h9
    · exact .inl (hst h9)
    · exact .inr h9
end CA2

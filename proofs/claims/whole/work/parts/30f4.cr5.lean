-- equality: the class's reader, exact: an instruction list
/-- a walk over the instructions, with the class's notes -/
def wkC (cb ν : Nat → Int32) (b E : Nat) : Nat → Nat → Nat → Prop
  | 0, _, _ => False
  | m + 1, p, d => p < E ∧ ∃ q', rW cb (wk_sh ((cb p).toInt % 256)) (p + 1) q' ∧ (4 ≤ wk_sh ((cb p).toInt % 256) → nXc cb ν b (wk_sh ((cb p).toInt % 256)) (p - b) q') ∧ ((p + 1 = E ∧ wk_sh ((cb p).toInt % 256) = 3 ∧ d = 0) ∨ (¬ (wk_sh ((cb p).toInt % 256) = 3 ∧ d = 0) ∧ q' < E ∧ wkC cb ν b E m q' (if wk_sh ((cb p).toInt % 256) = 1 then d + 1 else if wk_sh ((cb p).toInt % 256) = 3 then d - 1 else d)))
/-- a list of instructions from p to E is noted -/
def eW (cA ν : Nat → Int32) (b a E p : Nat) : Prop := b ≤ p ∧ E ≤ b + a ∧ ∃ m, wkC cA ν b E m p 0
def wn_cl (cb ν : Nat → Int32) (b a0 p : Nat) (st : List (Nat × Option Nat)) : Prop :=
  ∀ (E : Nat) (nu : Nat → Int32), (∀ j, j < p - b → (∀ x ∈ st, wk_key x ≠ j) → nu j = ν j) → (∃ m, wkC cb nu b E m p st.length) → ∃ m, wkC cb nu b E m a0 0
/-- the kind of something open -/
def kk_ (cb : Nat → Int32) (b : Nat) (x : Nat × Option Nat) : Int32 := match x.2 with
  | none => ub cb (b + x.1)
  | some _ => 5
section CR5
variable {α : Type} {h0 : xb_H} {rd op md cd nt N rc rs b p p1 q e w s a0 : Nat} {cb ν ν' : Nat → Int32} {R : Except (Nat × Nat) α} {Qt : String → xb_H → Nat → Nat → Prop} {h : xb_H} {bc bs : Nat} {K : Nat → Except (Nat × Nat) α} {f : Nat → Int32} {st : List (Nat × Option Nat)}
theorem wkC.lt {E m d : Nat} (h : wkC cb ν b E m p d) : p < E := by
  cases m with
  | zero => exact h.elim
  | succ m => exact h.1
theorem nXc.cg {j : Nat} {nu : Nat → Int32} (h : nXc cb ν b s j q) (hw : rW cb s (b + j + 1) q) (h4 : 4 ≤ s) (ha : ∀ k, j ≤ k → k < q - b → nu k = ν k) : nXc cb nu b s j q := by
  obtain ⟨a1, a2, a3, a4, a5, a6, a7, a8⟩ := h
  obtain ⟨b1, b2, b3⟩ := rW_b hw
  have b2 := b2 h4
  have e0 : nu j = ν j := ha j (by omega) (by omega)
  have e1 : nu (j + 1) = ν (j + 1) := ha _ (by omega) (by omega)
  refine ⟨by rw [e0]; exact a1, fun h9 => by rw [e1]; exact a2 h9, fun h9 k hk => ?_, fun h9 => ?_, fun h9 => by rw [e1]; exact a5 h9, fun h9 => ⟨by rw [e1]; exact (a6 h9).1, fun h8 => ?_⟩, fun h9 => by rw [e1]; exact a7 h9, fun h9 => ⟨by rw [e1]; exact (a8 h9).1, ?_⟩⟩
  · subst h9
    obtain ⟨p1, L, p2, x, c1, c2, c3⟩ := rW_5i.mp hw
    have := rC_b c1
    have := cks_b c2
    have := rC_b c3
    rw [(rC_E c1).2] at hk
    rw [ha _ (by omega) (by omega)]
    exact a3 rfl k (by rw [(rC_E c1).2]; exact hk)
  · have := b3 (by omega)
    rw [ha _ (by omega) (by omega)]
    exact a4 h9
  · rw [ha _ (by omega) (by omega)]
    exact (a6 h9).2 h8
  · have := b3 (by omega)
    rw [ha _ (by omega) (by omega)]
    exact (a8 h9).2
theorem wn_cl.plain (h : wn_cl cb ν b a0 p st) (hs : wk_sh ((cb p).toInt % 256) = 0) : wn_cl cb ν b a0 (p + 1) st := by
  intro E nu ha ⟨m, hw⟩
  refine h E nu (fun j hj hx => ha j (by omega) hx) ⟨m + 1, ?_⟩
  have := hw.lt
  refine ⟨by omega, p + 1, by rw [hs]; exact rW_0 (.inl rfl), fun h9 => by omega, .inr ⟨by omega, this, by rw [hs]; exact hw⟩⟩
theorem wn_cl.opens (h : wn_cl cb ν b a0 p st) (hs : wk_sh ((cb p).toInt % 256) = 1) (hr : rW cb 1 (p + 1) (p + 2)) (hb : b ≤ p) : wn_cl cb ν b a0 (p + 2) ((p - b, none) :: st) := by
  intro E nu ha ⟨m, hw⟩
  refine h E nu (fun j hj hx => ha j (by omega) (fun x hm => ?_)) ⟨m + 1, ?_⟩
  · rcases List.mem_cons.mp hm with e9 | e9
    · rw [e9]
      show p - b + 1 ≠ j
      omega
    · exact hx x e9
  · have := hw.lt
    refine ⟨by omega, p + 2, by rw [hs]; exact hr, fun h9 => by omega, .inr ⟨by omega, this, by rw [hs]; exact hw⟩⟩
theorem wn_cl.els {o : Nat} {t : List (Nat × Option Nat)} {w : Int32} (h : wn_cl cb ν b a0 p ((o, none) :: t)) (hs : wk_sh ((cb p).toInt % 256) = 2) : wn_cl cb (va_up ν (o + 1) w) b a0 (p + 1) ((o, some (p - b)) :: t) := by
  intro E nu ha ⟨m, hw⟩
  refine h E nu (fun j hj hx => ?_) ⟨m + 1, ?_⟩
  · have h1 : o + 1 ≠ j := hx _ List.mem_cons_self
    rw [ha j (by omega) (fun x hm => ?_), xh_up, if_neg (fun e => h1 e.symm)]
    rcases List.mem_cons.mp hm with e9 | e9
    · rw [e9]
      show p - b ≠ j
      omega
    · exact hx x (List.mem_cons_of_mem _ e9)
  · have := hw.lt
    refine ⟨by omega, p + 1, by rw [hs]; exact rW_0 (.inr (.inl rfl)), fun h9 => by omega, .inr ⟨by omega, this, by rw [hs]; exact hw⟩⟩
theorem wn_cl.ends {x : Nat × Option Nat} {t : List (Nat × Option Nat)} {w : Int32} (h : wn_cl cb ν b a0 p (x :: t)) (hs : wk_sh ((cb p).toInt % 256) = 3) : wn_cl cb (va_up ν (wk_key x) w) b a0 (p + 1) t := by
  intro E nu ha ⟨m, hw⟩
  refine h E nu (fun j hj hx => ?_) ⟨m + 1, ?_⟩
  · have h1 : wk_key x ≠ j := hx _ List.mem_cons_self
    rw [ha j (by omega) (fun y hm => hx y (List.mem_cons_of_mem _ hm)), xh_up, if_neg (fun e => h1 e.symm)]
  · have := hw.lt
    refine ⟨by omega, p + 1, by rw [hs]; exact rW_0 (.inr (.inr rfl)), fun h9 => by omega, .inr ⟨by rw [List.length_cons]; omega, this, by rw [hs]; exact hw⟩⟩
theorem wn_cl.opr (h : wn_cl cb ν b a0 p st) (hst : wk_st (p - b) st) (hb : b ≤ p) (hs : wk_sh ((cb p).toInt % 256) = s) (h4 : 4 ≤ s) (ho : rd_op s (p - b) (q - b) ν ν') (hr : rW cb s (p + 1) q) (hn : nXc cb ν' b s (p - b) q) : wn_cl cb ν' b a0 q st := by
  intro E nu ha ⟨m, hw⟩
  have hrb := rW_b hr
  refine h E nu (fun j hj hx => ?_) ⟨m + 1, ?_⟩
  · rw [ha j (by omega) hx]
    exact ho.1 j hj
  · have := hw.lt
    refine ⟨by omega, q, by rw [hs]; exact hr, fun _ => ?_, .inr ⟨by omega, this, by rw [if_neg (by omega), if_neg (by omega)]; exact hw⟩⟩
    rw [hs]
    refine hn.cg (by rw [show b + (p - b) + 1 = p + 1 by omega]; exact hr) h4 (fun k k1 k2 => ha k k2 (fun x hx e9 => ?_))
    have := hst.key hx
    omega
theorem wn_cl.fin {w : Int32} (h : wn_cl cb ν b a0 p []) (hs : wk_sh ((cb p).toInt % 256) = 3) : ∃ m, wkC cb (va_up ν (p - b) w) b (p + 1) m a0 0 := by
  refine h (p + 1) _ (fun j hj _ => by rw [xh_up, if_neg (by omega)]) ⟨1, ?_⟩
  exact ⟨by omega, p + 1, by rw [hs]; exact rW_0 (.inr (.inr rfl)), fun h9 => by omega, .inl ⟨rfl, hs, rfl⟩⟩
section
variable {m : Nat} {ks : List Int32}
theorem pEx_2 (h1 : e ≤ p) : pEx cb e (m + 1) p ks = .error (2, e) := by
  unfold pEx
  rw [if_pos h1]
theorem ub_i : (ub cb p).toInt = (cb p).toInt % 256 := by unfold ub; rw [z_255]
set_option maxRecDepth 100000 in
theorem sh_cl (h : wk_sh ((cb p).toInt % 256) = s) : ((¬ ub cb p < 2 ∧ ¬ 4 < ub cb p) ↔ s = 1) ∧ (ub cb p = 5 ↔ s = 2) ∧ (ub cb p = 11 ↔ s = 3) := by
  have key : ∀ n : Nat, n < 256 → ((2 ≤ n ∧ n ≤ 4 ↔ wk_sh (n : Int) = 1) ∧ (n = 5 ↔ wk_sh (n : Int) = 2) ∧ (n = 11 ↔ wk_sh (n : Int) = 3)) := by decide
  have hu := ub_i (cb := cb) (p := p)
  obtain ⟨n, hn⟩ : ∃ n : Nat, (cb p).toInt % 256 = n := ⟨((cb p).toInt % 256).toNat, by omega⟩
  rw [hn] at h hu
  obtain ⟨a1, a2, a3⟩ := key n (by omega)
  rw [h] at a1 a2 a3
  rw [z_lt, z_lt, z_eq, z_eq, hu]
  simp only [Int32.reduceToInt]
  refine ⟨?_, ?_, ?_⟩
  · rw [← a1]
    omega
  · rw [← a2]
    omega
  · rw [← a3]
    omega
theorem pEx_1 (hp : p < e) (h : wk_sh ((cb p).toInt % 256) = 1) : pEx cb e (m + 1) p ks = if ks.length = 200 then .error (10, p) else (pWr cb e p 1 (p + 1)).bind (fun q => pEx cb e m q (ub cb p :: ks)) := by
  conv => lhs; unfold pEx
  rw [if_neg (by omega), if_pos ((sh_cl h).1.mpr rfl), ub_i, h]
theorem pEx_e0 (hp : p < e) (h : wk_sh ((cb p).toInt % 256) = 2) : pEx cb e (m + 1) p [] = .error (5, p) := by
  unfold pEx
  rw [if_neg (by omega), if_neg (fun h9 => by have := (sh_cl h).1.mp h9; omega), if_pos ((sh_cl h).2.1.mpr rfl)]
theorem pEx_en {k : Int32} {t : List Int32} (hp : p < e) (h : wk_sh ((cb p).toInt % 256) = 2) (hk : ¬ k = 4) : pEx cb e (m + 1) p (k :: t) = .error (5, p) := by
  unfold pEx
  rw [if_neg (by omega), if_neg (fun h9 => by have := (sh_cl h).1.mp h9; omega), if_pos ((sh_cl h).2.1.mpr rfl)]
  exact if_neg hk
theorem pEx_e4 {t : List Int32} (hp : p < e) (h : wk_sh ((cb p).toInt % 256) = 2) : pEx cb e (m + 1) p (4 :: t) = pEx cb e m (p + 1) (5 :: t) := by
  conv => lhs; unfold pEx
  rw [if_neg (by omega), if_neg (fun h9 => by have := (sh_cl h).1.mp h9; omega), if_pos ((sh_cl h).2.1.mpr rfl)]
  show (if (4 : Int32) = 4 then _ else _) = _
  rw [if_pos rfl, ub_i, h, pWr_sx (rW_0 (.inr (.inl rfl))) hp]
  rfl
theorem pEx_z0 (hp : p < e) (h : wk_sh ((cb p).toInt % 256) = 3) : pEx cb e (m + 1) p [] = .ok (p + 1) := by
  unfold pEx
  rw [if_neg (by omega), if_neg (fun h9 => by have := (sh_cl h).1.mp h9; omega), if_neg (fun h9 => by have := (sh_cl h).2.1.mp h9; omega), if_pos ((sh_cl h).2.2.mpr rfl), ub_i, h, pWr_sx (rW_0 (.inr (.inr rfl))) hp]
  rfl
theorem pEx_z1 {k : Int32} {t : List Int32} (hp : p < e) (h : wk_sh ((cb p).toInt % 256) = 3) : pEx cb e (m + 1) p (k :: t) = pEx cb e m (p + 1) t := by
  conv => lhs; unfold pEx
  rw [if_neg (by omega), if_neg (fun h9 => by have := (sh_cl h).1.mp h9; omega), if_neg (fun h9 => by have := (sh_cl h).2.1.mp h9; omega), if_pos ((sh_cl h).2.2.mpr rfl), ub_i, h, pWr_sx (rW_0 (.inr (.inr rfl))) hp]
  rfl
theorem pEx_ox (hp : p < e) (h : wk_sh ((cb p).toInt % 256) = s) (h1 : s ≠ 1 ∧ s ≠ 2 ∧ s ≠ 3) : pEx cb e (m + 1) p ks = (pWr cb e p s (p + 1)).bind (fun q => pEx cb e m q ks) := by
  conv => lhs; unfold pEx
  rw [if_neg (by omega), if_neg (fun h9 => h1.1 ((sh_cl h).1.mp h9)), if_neg (fun h9 => h1.2.1 ((sh_cl h).2.1.mp h9)), if_neg (fun h9 => h1.2.2 ((sh_cl h).2.2.mp h9)), ub_i, h]
end
theorem exA {γ β δ : Type} {P : Except γ α} {G : α → Except γ β} {H : β → Except γ δ} : (P.bind G).bind H = P.bind (fun a => (G a).bind H) := by
  cases P <;> rfl
theorem y_readBlockType {v : Int32} {ν : Nat → Int32} {Qr : xb_H → Nat → Nat → Prop} (hT : rdT h0 rd op md rc rs b R Qt) (hX : rd_X h0 h rd op md) (hs : rq h rd md cd N b p1 e cb) (hn : rd_n h0 h rd nt op N) (hcd : cd ≠ nt ∧ cd ≠ op) (hc : rc + 1 ≤ bc) (hb : rs + 6 ≤ bs) (hby : ∀ j, -128 ≤ (cb j).toInt ∧ (cb j).toInt ≤ 127) (h1 : v.toInt + b = p) (h2 : p ≤ e) (h3 : b ≤ p) (hR : R = (pWr cb e w 1 p).bind K)
    (hQ : ∀ v' : Int32, v'.toInt + b = (p + 1 : Nat) → p < e → ((cb p).toInt = 64 ∨ 124 ≤ (cb p).toInt ∧ (cb p).toInt ≤ 127) → rW cb 1 p (p + 1) → R = K (p + 1) → Qr (rd_E h rd nt op v' ν f) bc bs) : w_Reader_readBlockType rd (rd_E h rd nt op v ν f) bc bs Qr Qt := by
  obtain ⟨k1, k2, k3, k4, k5, k6, k7, k8, k9, k10, k11, k12⟩ := hs.2.2.1
  obtain ⟨n1, n2, n3, n4, n5, n6, n7, n8, n9, n10⟩ := id hn
  have hy := hby p
  have hu := ub_i (cb := cb) (p := p)
  unfold w_Reader_readBlockType w_Reader_readBlockType_L23 w_Reader_readBlockType_L37
  refine ⟨k1, y_nextByte hT (hX.E hn) (hs.E hn hcd h1 h3 h2) hc hb (fun h9 => by rw [hR, pWr_1n (by omega), fVT_2 h9]; rfl) (fun v' g1 g2 _ => ?_)⟩
  rw [rdE_at n8 n9]
  have hf : ¬ (ub cb p = 64 ∨ (¬ ub cb p < 124 ∧ ¬ 127 < ub cb p)) → xb_k (rd_E h rd nt op v' ν f) rd = 4 ∧ ∃ b2 : Nat, xb_r (rd_E h rd nt op v' ν f) rd 0 = some b2 ∧ xb_k (rd_E h rd nt op v' ν f) b2 = 3 ∧ w_StackModule_fail b2 5 (xb_i (rd_E h rd nt op v' ν f) rd 3 - 1) (rd_E h rd nt op v' ν f) bc bs (fun (h4 : xb_H) (bc5 bs5 : Nat) => xb_ext (rd_E h rd nt op v' ν f) h4 → Qr h4 bc5 bs5) Qt := fun h9 => ⟨k1, md, k2, k3, y_fail (c := 5) (w := p) hT (hX.E hn) hc hb (by rw [hR, pWr_1n (fun h8 => h9 h8.2), fVT_5 g2]; rfl) rfl (by rw [rdE_iat n8 n9]; exact rq.m1 g1 h3)⟩
  have ok : (ub cb p = 64 ∨ (¬ ub cb p < 124 ∧ ¬ 127 < ub cb p)) → Qr (rd_E h rd nt op v' ν f) bc bs := fun h9 => by
    have hw : rW cb 1 p (p + 1) := rW_1i.mpr ⟨rfl, h9⟩
    refine hQ v' g1 g2 ?_ hw (by rw [hR, pWr_sx hw g2]; rfl)
    rw [z_eq, z_lt, z_lt, hu] at h9
    simp only [Int32.reduceToInt] at h9
    omega
  have l127 : ub cb p ≤ 127 ↔ ¬ 127 < ub cb p := by
    rw [z_le, z_lt]
    omega
  rw [l127]
  exact ⟨fun g3 => ok (.inl g3), fun g3 => ⟨fun g4 => hf (fun h9 => h9.elim g3 (fun h8 => h8.1 g4)), fun g4 => ⟨fun g5 => ok (.inr ⟨g4, g5⟩), fun g5 => hf (fun h9 => h9.elim g3 (fun h8 => g5 h8.2))⟩⟩⟩
theorem cks_ls {n : Nat} (h1 : cks cb (n + 1) p = some q) : ∃ p2 x, cks cb n p = some p2 ∧ rC cb p2 = some (q, x) := by
  obtain ⟨pk, g1, g2⟩ := cks_pre h1 (show n ≤ n + 1 by omega)
  rw [show n + 1 - n = 0 + 1 by omega] at g2
  unfold cks at g2
  split at g2
  · rename_i a x e9
    simp only [cks, Option.some.injEq] at g2
    subst g2
    exact ⟨pk, x, g1, e9⟩
  · cases g2
theorem y_labelsL {j : Nat} {x1 x2 : Int32} {L : Int64} {ν0 : Nat → Int32} {Qr : xb_H → Nat → Nat → Prop} (hT : rdT h0 rd op md rc rs b R Qt) (hX : rd_X h0 h rd op md) (hs : rq h rd md cd N b p e cb) (hn : rd_n h0 h rd nt op N) (hcd : cd ≠ nt ∧ cd ≠ op) (hc : rc + 1 ≤ bc) (hb : rs + 6 ≤ bs) (hp : x1.toInt = j) (hC : rC cb (b + j + 1) = some (p1, L)) (h1e : p1 ≤ e) (h2 : x2.toBitVec.toNat = L.toInt.toNat) (hR : R = (pWr cb e w 5 (b + j + 1)).bind K)
    (hQ : ∀ (q : Nat) (v' : Int32) (ν' : Nat → Int32), v'.toInt + b = q → q ≤ e → b ≤ q → rW cb 5 (b + j + 1) q → rd_op 5 j (q - b) ν0 ν' → nXc cb ν' b 5 j q → R = K q → Qr (rd_E h rd nt op v' ν' f) bc bs) :
    ∀ (m k pk : Nat) (x3 : Int64) (v : Int32) (ν : Nat → Int32), x3.toInt = k → k ≤ L.toInt.toNat + 1 → cks cb k p1 = some pk → pk ≤ e → v.toInt + b = pk → e - pk ≤ m → ν (j + 1) = x2 → (∀ i, i < j → ν i = ν0 i) → (∀ i : Nat, pk - b ≤ i → ν i = ν0 i) → (∀ i, i < k → (ν (j + 2 + i)).toBitVec.toNat = lbl cb (b + j) i) → w_Reader_readLabels_L16 Qr Qt (m + 1) rd x1 x2 x3 (rd_E h rd nt op v ν f) bc bs
  | m, k, pk, x3, v, ν, g1, g2, g3, g4, g4', g5, g6, g7, g8, g9 => by
    obtain ⟨k1, k2, k3, k4, k5, k6, k7, k8, k9, k10, k11, k12⟩ := hs.2.2.1
    obtain ⟨n1, n2, n3, n4, n5, n6, n7, n8, n9, n10⟩ := id hn
    have hr := hs.rg
    have c0 : x1.toNatClampNeg = j := by rw [z_cl, hp]; omega
    have hn2 := z_nat x2
    have rb := rC_b hC
    have cb3 := cks_b g3
    have eL : (x2.toInt64 &&& 4294967295).toInt = (L.toInt.toNat : Nat) := by
      rw [Z_low, Z_of32]
      omega
    have hcv := (rC_E hC).2
    have hce := (rC_E hC).1
    unfold w_Reader_readLabels_L16
    refine ⟨fun e1 => ⟨k1, nt, n1, n2, by rw [z_in, hp, rdE_n, n3]; omega, fun h6 e6 => ?_⟩, fun e1 => ⟨k1, ?_⟩⟩
    · rw [Z_lt, eL] at e1
      rw [c0, rdE_nt n8 n10, rdE_iat n8 n9] at e6
      subst e6
      have ek : k = L.toInt.toNat + 1 := by omega
      rw [ek] at g3
      obtain ⟨p2, x, d1, d2⟩ := cks_ls g3
      have hrw : rW cb 5 (b + j + 1) pk := rW_5i.mpr ⟨p1, L, p2, x, hC, d1, d2⟩
      have ge : b + j + 2 + L.toInt.toNat < pk := by omega
      have hx2 : x2.toInt = (L.toInt.toNat : Nat) := by
        have := z_rg x2
        omega
      refine hQ pk v _ g4' g4 (by omega) hrw ⟨fun i hj => ?_, fun i hj => ?_, ?_, by omega, fun _ => ?_, by omega, by omega⟩ ⟨?_, fun _ => ?_, fun _ i hi => ?_, fun h => by omega, fun h => by omega, fun h => by omega, fun h => by omega, fun h => by omega⟩ (by rw [hR, pWr_sx hrw g4]; rfl)
      · rw [xh_up, if_neg (by omega)]; exact g7 i hj
      · rw [xh_up, if_neg (by omega)]; exact g8 i (by omega)
      · rw [xh_up, if_pos rfl]; omega
      · rw [xh_up, if_neg (by omega), g6]
        omega
      · rw [xh_up, if_pos rfl]
        exact g4'
      · rw [xh_up, if_neg (by omega), g6, hcv]
        exact h2
      · rw [xh_up, if_neg (by omega)]
        exact g9 i (by omega)
    · rw [Z_lt, eL] at e1
      refine y_count (K := fun _ => R) hT (hX.E hn) (hs.E hn hcd g4' (by omega) g4) hc hb (cnR (fun h9 => by rw [hR, lab_f hC h1e g3 g4 (by omega) h9]; rfl)) (fun u v' q x f1 f2 f3 f4 f5 _ _ => ?_)
      rw [rdE_at n8 n9]
      have e3a : (x1 + 2).toInt = j + 2 := by
        rw [z_add, hp]
        simp only [Int32.reduceToInt]
        omega
      have e3b : x3.toInt32.toInt = k := by
        rw [z_of64, g1]
        omega
      have e3 : (x1 + 2 + x3.toInt32).toInt = j + 2 + k := by
        rw [z_add, e3a, e3b]
        omega
      have c3 : (x1 + 2 + x3.toInt32).toNatClampNeg = j + 2 + k := by rw [z_cl, e3]; omega
      have e4 : (x3 + 1).toInt = (k + 1 : Nat) := by
        rw [Z_add, g1]
        simp only [Int64.reduceToInt]
        clear g8 g7 hQ
        omega
      refine ⟨nt, n1, n2, by rw [z_in, e3, rdE_n, n3]; omega, fun h14 e14 v15 e15 => ?_⟩
      rw [c3, rdE_nt n8 n10] at e14
      subst e14
      subst e15
      match m, g5 with
      | 0, g5 => omega
      | m + 1, g5 =>
        refine y_labelsL hT hX hs hn hcd hc hb hp hC h1e h2 hR hQ m (k + 1) q (x3 + 1) v' _ e4 (by omega) (cks_nx g3 f1) f3 f5 (by omega) ?_ (fun i hj => ?_) (fun i hj => ?_) (fun i hi => ?_)
        · rw [xh_up, if_neg (by omega)]; exact g6
        · rw [xh_up, if_neg (by omega)]; exact g7 i hj
        · rw [xh_up, if_neg (by omega)]; exact g8 i (by omega)
        · rw [xh_up]
          rcases Nat.lt_or_ge i k with h9 | h9
          · rw [if_neg (by omega)]
            exact g9 i h9
          · have : i = k := by omega
            subst this
            rw [if_pos rfl, f4]
            unfold lbl
            rw [hce, itE_c g3]
theorem y_readLabels {j : Nat} {x1 v : Int32} {ν : Nat → Int32} {Qr : xb_H → Nat → Nat → Prop} (hT : rdT h0 rd op md rc rs b R Qt) (hX : rd_X h0 h rd op md) (hs : rq h rd md cd N b p e cb) (hn : rd_n h0 h rd nt op N) (hcd : cd ≠ nt ∧ cd ≠ op) (hc : rc + 1 ≤ bc) (hb : rs + 6 ≤ bs) (hp : x1.toInt = j) (hv : v.toInt = j + 1) (hl : b + j + 1 ≤ e) (hR : R = (pWr cb e w 5 (b + j + 1)).bind K)
    (hQ : ∀ (q : Nat) (v' : Int32) (ν' : Nat → Int32), v'.toInt + b = q → q ≤ e → b ≤ q → rW cb 5 (b + j + 1) q → rd_op 5 j (q - b) ν ν' → nXc cb ν' b 5 j q → R = K q → Qr (rd_E h rd nt op v' ν' f) bc bs) : w_Reader_readLabels rd x1 (rd_E h rd nt op v ν f) bc bs Qr Qt := by
  obtain ⟨k1, k2, k3, k4, k5, k6, k7, k8, k9, k10, k11, k12⟩ := hs.2.2.1
  obtain ⟨n1, n2, n3, n4, n5, n6, n7, n8, n9, n10⟩ := id hn
  have hr := hs.rg
  have r1 := z_rg x1
  have e1 : (x1 + 1).toInt = j + 1 := by rw [z_add, hp]; simp only [Int32.reduceToInt]; omega
  have c1 : (x1 + 1).toNatClampNeg = j + 1 := by rw [z_cl, e1]; omega
  unfold w_Reader_readLabels
  refine ⟨k1, y_count (K := fun _ => R) hT (hX.E hn) (hs.E hn hcd (q := b + j + 1) (by omega) (by omega) hl) hc hb (cnR (fun h9 => by rw [hR, pWr_5n h9]; rfl)) (fun u v' q x g1 g2 g3 g4 g5 _ _ => ?_)⟩
  rw [rdE_at n8 n9]
  refine ⟨nt, n1, n2, by rw [z_in, e1, rdE_n, n3]; omega, fun h8 e8 => ⟨(e - q) + 1, ?_⟩⟩
  rw [c1, rdE_nt n8 n10] at e8
  subst e8
  refine y_labelsL hT hX hs hn hcd hc hb hp g1 g3 (by rw [g4, (rC_E g1).2]) hR hQ _ 0 q 0 v' _ rfl (by omega) rfl g3 g5 (by omega) ?_ (fun i hj => ?_) (fun i hj => ?_) (fun i hi => by omega)
  · rw [xh_up, if_pos rfl]
  · rw [xh_up, if_neg (by omega)]
  · rw [xh_up, if_neg (by omega)]
/-- where the loop stands: within the list, or behind its end -/
def rdLx (cb : Nat → Int32) (b e a0 p : Nat) (R : Except (Nat × Nat) α) (K : Nat → Except (Nat × Nat) α) (x2 : Int32) (ν : Nat → Int32) (st : List (Nat × Option Nat)) : Prop :=
  (x2 = 1 → (∃ m, wkC cb ν b (b + p) m (b + a0) 0) ∧ R = K (b + p)) ∧ (x2 = 0 → wn_cl cb ν b (b + a0) (b + p) st ∧ ∃ mf, e - (b + p) + 1 ≤ mf ∧ R = (pEx cb e mf (b + p) (st.map (kk_ cb b))).bind K)
def rdL (cr cb ν0 : Nat → Int32) (b e a0 p : Nat) (R : Except (Nat × Nat) α) (K : Nat → Except (Nat × Nat) α) (x1 x2 : Int32) (ν f : Nat → Int32) : Prop :=
  (∀ j, j < a0 → ν j = ν0 j) ∧ (∀ j, p ≤ j → ν j = 0) ∧
  ((x2 = 1 ∧ a0 < p ∧ (∃ m, wk cr ν p m a0 []) ∧ rdLx cb b e a0 p R K x2 ν []) ∨ (x2 = 0 ∧ ∃ st : List (Nat × Option Nat), x1.toInt = st.length ∧ st.length ≤ 200 ∧ wk_st p st ∧ wk_o f st ∧ wk_c cr a0 st ∧ wk_cl cr ν a0 p st ∧ rdLx cb b e a0 p R K x2 ν st))
theorem wk_sh13 {b : Int} : wk_sh b ≤ 13 := by
  unfold wk_sh
  repeat' split
  all_goals omega
theorem y_readExpressionL {a0 : Nat} {ν0 : Nat → Int32} {Qr : xb_H → Nat → Nat → Prop} (hT : rdT h0 rd op md rc rs b R Qt) (hX : rd_X h0 h rd op md) (hs : rq h rd md cd N b p1 e cb) (hn : rd_n h0 h rd nt op N) (hc : rc + 1 ≤ bc) (hb : rs + 6 ≤ bs) (ha0 : 0 < a0) (hbc : ∀ j, -128 ≤ (cb j).toInt ∧ (cb j).toInt ≤ 127)
    (hby : ∀ j, -128 ≤ (xb_i h cd j).toInt ∧ (xb_i h cd j).toInt ≤ 127) (hcd : cd ≠ nt ∧ cd ≠ op ∧ cd ≠ rd)
    (hQ : ∀ (q : Nat) (v' : Int32) (ν' f' : Nat → Int32), v'.toInt = q → a0 < q → b + q ≤ e → (∀ j, j < a0 → ν' j = ν0 j) → (∀ j, q ≤ j → ν' j = 0) → (∃ m, wk (xb_i h cd) ν' q m a0 []) → (∃ m, wkC cb ν' b (b + q) m (b + a0) 0) → R = K (b + q) → Qr (rd_E h rd nt op v' ν' f') bc bs) :
    ∀ (m : Nat) (x1 x2 x3 v : Int32) (ν f : Nat → Int32) (p : Nat), v.toInt = p → b + p ≤ e → a0 ≤ p → 0 ≤ x3.toInt → x3.toInt ≤ p - a0 → N - x3.toInt ≤ m → rdL (xb_i h cd) cb ν0 b e a0 p R K x1 x2 ν f → w_Reader_readExpression_L6 Qr Qt (m + 1) rd x1 x2 x3 (rd_E h rd nt op v ν f) bc bs
  | m, x1, x2, x3, v, ν, f, p, hv, hl, hap, h3, h3', hm, ⟨L1, L2, L3⟩ => by
    obtain ⟨k1, k2, k3, k4, k5, k6, k7, k8, k9, k10, k11, k12⟩ := hs.2.2.1
    have hrg := hs.rg
    have hcd' : cd ≠ nt ∧ cd ≠ op := ⟨hcd.1, hcd.2.1⟩
    obtain ⟨n1, n2, n3, n4, n5, n6, n7, n8, n9, n10⟩ := id hn
    have r1 := z_rg x1
    have r3 := z_rg x3
    have hI := z_nI (n := N) (by omega)
    have e31 : (x3 + 1).toInt = x3.toInt + 1 := by rw [z_add]; simp only [Int32.reduceToInt]; omega
    unfold w_Reader_readExpression_L6 w_Reader_readExpression_L233
    refine ⟨k1, cd, k4, k5, fun g1 => ?_, fun g1 => ⟨fun g2 => ?_, fun g2 v6 e6 => ?_⟩⟩
    · rw [rdE_n, k6, z_le, hI] at g1
      rcases L3 with ⟨c1, c2, c3, c4⟩ | ⟨-, st, c⟩
      · exact hQ p v ν f hv c2 hl L1 L2 c3 (c4.1 c1).1 (c4.1 c1).2
      · omega
    · rcases L3 with ⟨c1, c2, c3, c4⟩ | ⟨c1, st, c⟩
      · exact hQ p v ν f hv c2 hl L1 L2 c3 (c4.1 c1).1 (c4.1 c1).2
      · exact absurd c1 g2
    · rcases L3 with ⟨c1, c2, c3, -⟩ | ⟨c1, st, d1, d2, d3, d4, d5, d6, d7⟩
      · rw [g2] at c1
        exact absurd c1 (by decide)
      rw [rdE_n, k6, z_le, hI] at g1
      rw [rdE_iat n8 n9] at e6
      rw [e6]
      obtain ⟨w1, mf, w2, w3⟩ := d7.2 c1
      obtain ⟨mf, rfl⟩ : ∃ k, mf = k + 1 := ⟨mf - 1, by omega⟩
      refine y_nextByte hT (hX.E hn) (hs.E hn hcd' (q := b + p) (by omega) (by omega) hl) hc hb (fun h9 => by rw [w3, pEx_2 h9]; rfl) (fun v1 q1' q2' _ => ?_)
      have q1 : v1.toInt = (p : Int) + 1 := by omega
      have hcp : cb (b + p) = xb_i h cd p := (hs.2.2.2.2 p (by omega)).symm
      rw [rdE_at n8 n9, show ub cb (b + p) = xb_i h cd p &&& 255 by unfold ub; rw [hcp]]
      have hb1 := z_255 (xb_i h cd p)
      have hsh : ∀ {s : Nat}, wk_sh ((xb_i h cd p).toInt % 256) = s → wk_sh ((cb (b + p)).toInt % 256) = s := fun h9 => by rw [hcp]; exact h9
      have hy := hby p
      refine sp_Reader_shapeOf (by omega) (fun r hr _ => ?_)
      rw [hb1] at hr
      -- the next turn of the loop
      have nxt : ∀ (y1 y2 w : Int32) (ν1 f1 : Nat → Int32) (q : Nat), w.toInt = q → b + q ≤ e → p < q → rdL (xb_i h cd) cb ν0 b e a0 q R K y1 y2 ν1 f1 → w_Reader_readExpression_L227 (w_Reader_readExpression_L6 Qr Qt m) Qr Qt rd y1 y2 x3 (rd_E h rd nt op w ν1 f1) bc bs := by
        intro y1 y2 w ν1 f1 q j1 j2 j3 j4
        unfold w_Reader_readExpression_L227
        match m, hm with
        | 0, hm => omega
        | m + 1, hm => exact y_readExpressionL hT hX hs hn hc hb ha0 hbc hby hcd hQ m y1 y2 (x3 + 1) w ν1 f1 q j1 j2 (by omega) (by omega) (by omega) (by omega) j4
      have lit : ∀ k : Int32, r = k ↔ (wk_sh ((xb_i h cd p).toInt % 256) : Int) = k.toInt := fun k => by rw [z_eq, hr]
      have opr : ∀ s : Nat, wk_sh ((xb_i h cd p).toInt % 256) = s → 4 ≤ s → ∀ (q : Nat) (v' : Int32) (ν' : Nat → Int32), v'.toInt + b = q → q ≤ e → b ≤ q → rW cb s (b + p + 1) q → rd_op s p (q - b) ν ν' → nXc cb ν' b s p q → R = (pEx cb e mf q (st.map (kk_ cb b))).bind K → w_Reader_readExpression_L227 (w_Reader_readExpression_L6 Qr Qt m) Qr Qt rd x1 x2 x3 (rd_E h rd nt op v' ν' f) bc bs := by
        intro s hsh' h4 q v' ν' j1 j2 j20 j21 j3 j4 j5
        have hpq := j3.2.2.2.1
        refine nxt _ _ _ _ _ (q - b) (by omega) (by omega) (by omega) ⟨fun j hj => ?_, fun j hj => ?_, .inr ⟨c1, st, d1, d2, d3.mono (by omega), d4, d5, d6.op d3 hsh' h4 j3, fun h9 => absurd (c1.symm.trans h9) (by decide), fun _ => ?_⟩⟩
        · rw [j3.1 j (by omega)]; exact L1 j hj
        · rw [j3.2.1 j hj]; exact L2 j (by omega)
        · rw [show b + (q - b) = q by omega]
          have ep : b + p - b = p := by omega
          exact ⟨w1.opr (by rw [ep]; exact d3) (by omega) (hsh hsh') h4 (by rw [ep]; exact j3) j21 (by rw [ep]; exact j4), mf, by omega, j5⟩
      have wO : 4 ≤ wk_sh ((xb_i h cd p).toInt % 256) → R = (pWr cb e (b + p) (wk_sh ((xb_i h cd p).toInt % 256)) (b + p + 1)).bind (fun q => (pEx cb e mf q (st.map (kk_ cb b))).bind K) := fun h4 => by
        rw [w3, pEx_ox (by omega) (hsh rfl) ⟨by omega, by omega, by omega⟩, exA]
      have fl : ∀ (c : Int32) (cc : Nat) (Qx : xb_H → Nat → Nat → Prop), c.toInt = cc → R = .error (cc, b + p) → ∃ b : Nat, xb_r (rd_E h rd nt op v1 ν f) rd 0 = some b ∧ xb_k (rd_E h rd nt op v1 ν f) b = 3 ∧ w_StackModule_fail b c v (rd_E h rd nt op v1 ν f) bc bs Qx Qt := fun c cc Qx hcc hRe => ⟨md, k2, k3, y_fail hT (hX.E hn) hc hb hRe hcc (by omega)⟩
      refine ⟨fun e => ?_, fun e => ?_, fun e => ?_, fun e => ?_, fun e => ?_, fun e => ?_, fun e0 e1 e2 e3 e4 e5 => ?_⟩
      · rw [lit] at e
        simp only [Int32.reduceToInt] at e
        have sh0 := hsh (s := 0) (by omega)
        refine nxt _ _ _ _ _ (p + 1) (by omega) (by omega) (by omega) ⟨L1, fun j hj => L2 j (by omega), .inr ⟨c1, st, d1, d2, d3.mono (by omega), d4, d5, d6.plain (by omega), fun h9 => absurd (c1.symm.trans h9) (by decide), fun _ => ⟨w1.plain sh0, mf, by omega, ?_⟩⟩⟩
        rw [w3, pEx_ox (by omega) sh0 (by decide), pWr_sx (rW_0 (.inl rfl)) (by omega)]
        rfl
      · rw [lit] at e
        simp only [Int32.reduceToInt] at e
        have sh1 := hsh (s := 1) (by omega)
        have hlen : (st.map (kk_ cb b)).length = st.length := List.length_map _
        rw [pEx_1 (by omega) sh1, hlen] at w3
        refine ⟨fun e200 => ?_, fun e200 => fl _ 10 _ rfl (by rw [w3, if_pos (by rw [z_eq, d1] at e200; simp only [Int32.reduceToInt] at e200; omega)]; rfl)⟩
        rw [if_neg (by rw [z_eq, d1] at e200; simp only [Int32.reduceToInt] at e200; omega), exA] at w3
        unfold w_Reader_readExpression_L94
        refine ⟨k1, y_readBlockType (p := b + p + 1) hT hX hs hn hcd' hc hb hbc (by omega) (by omega) (by omega) w3 (fun v2 u1 u2 u3 u4 u5 _ => ⟨op, n4, n5, ?_, fun h8 e8 => ?_⟩)⟩
        · rw [z_eq, d1] at e200
          simp only [Int32.reduceToInt] at e200
          rw [z_in, rdE_n, n6]
          omega
        · rw [rdE_op] at e8
          subst e8
          rw [show b + p + 1 = b + (p + 1) by omega, ← hs.2.2.2.2 (p + 1) (by omega)] at u3
          rw [z_eq, d1] at e200
          simp only [Int32.reduceToInt] at e200
          have e11 : (x1 + 1).toInt = x1.toInt + 1 := by rw [z_add]; simp only [Int32.reduceToInt]; omega
          have hop := wk_sh1 (by omega) (show wk_sh ((xb_i h cd p).toInt % 256) = 1 by omega)
          refine nxt _ _ _ _ _ (p + 2) (by omega) (by omega) (by omega) ⟨L1, fun j hj => L2 j (by omega), .inr ⟨c1, (p, none) :: st, by rw [e11, d1]; simp, by simp; omega, d3.op, ⟨?_, ?_⟩, ⟨⟨hap, fun _ => by dsimp only; omega, fun e9 h9 => (by cases h9)⟩, d5⟩, d6.opens (by omega) u3 (by omega), fun h9 => absurd (c1.symm.trans h9) (by decide), fun _ => ⟨?_, mf, by omega, u5⟩⟩⟩
          · rw [xh_up, if_pos (by rw [z_cl, d1]; rfl)]
            exact hv
          · exact d4.up (by rw [z_cl, d1]; simp)
          · have := w1.opens sh1 u4 (by omega)
            rw [show b + p - b = p by omega] at this
            exact this
      · rw [lit] at e
        simp only [Int32.reduceToInt] at e
        have sh2 := hsh (s := 2) (by omega)
        have h133 : R = .error (5, b + p) → w_Reader_readExpression_L133 (w_Reader_readExpression_L6 Qr Qt m) Qr Qt rd x1 x2 x3 v (rd_E h rd nt op v1 ν f) bc bs := fun hRe => by
          unfold w_Reader_readExpression_L133
          exact ⟨k1, fl _ 5 _ rfl hRe⟩
        refine ⟨fun e10 => h133 ?_, fun e10 => ?_⟩
        · have : st = [] := by
            rw [z_eq, d1] at e10
            simp only [Int32.reduceToInt] at e10
            exact List.length_eq_zero_iff.mp (by omega)
          rw [w3, this]
          show (pEx cb _ (mf + 1) (b + p) []).bind K = _
          rw [pEx_e0 (by omega) sh2]
          rfl
        rw [z_eq, d1] at e10
        simp only [Int32.reduceToInt] at e10
        match st, d1, d2, d3, d4, d5, d6, w1, w3 with
        | [], d1, _, _, _, _, _, _, _ => exact absurd (show ((([] : List (Nat × Option Nat)).length : Nat) : Int) = 0 from rfl) e10
        | x :: t, d1, d2, d3, d4, d5, d6, w1, w3 =>
          have e11 : (x1 - 1).toInt = t.length := by rw [z_sub, d1]; simp only [Int32.reduceToInt, List.length_cons]; simp only [List.length_cons] at d2; omega
          have c11 : (x1 - 1).toNatClampNeg = t.length := by rw [z_cl, e11]; omega
          have hpl : (f t.length).toInt = wk_pl x := d4.1
          have hplp : wk_pl x < p := by
            obtain ⟨o, e'⟩ := x
            cases e' with
            | none => have := d3.2.1; dsimp only at this; show o < p; omega
            | some e' => exact d3.1
          have hc0 : (f t.length).toNatClampNeg = wk_pl x := by rw [z_cl, hpl]; omega
          refine ⟨cd, k4, op, n4, n5, by rw [z_in, e11, rdE_n, n6]; simp only [List.length_cons] at d2; omega, k5, by rw [rdE_iop, c11, z_in, hpl, rdE_n, k6]; omega, fun e4 => ?_, fun e4 => h133 ?_⟩
          rotate_left
          · rw [rdE_iop, c11, hc0, rdE_io hcd.2.2 hcd.1 hcd.2.1] at e4
            rw [w3, List.map_cons, pEx_en (by omega) sh2 ?_]
            · rfl
            · obtain ⟨o, e'⟩ := x
              cases e' with
              | some e' => exact (by decide : ¬ (5 : Int32) = 4)
              | none =>
                intro h9
                have h9' : ub cb (b + o) = 4 := h9
                have h8 : ¬ xb_i h cd o = 4 := e4
                have hon : o < N := by
                  have := d3.2.1
                  dsimp only at this
                  omega
                rw [z_eq, ub_i, ← hs.2.2.2.2 o hon] at h9'
                rw [z_eq] at h8
                have := hby o
                simp only [Int32.reduceToInt] at h9' h8
                omega
          rw [rdE_iop, c11, hc0, rdE_io hcd.2.2 hcd.1 hcd.2.1] at e4
          obtain ⟨o, e'⟩ := x
          cases e' with
          | some e' =>
            exfalso
            have h9 := (d5.1.2.2 e' rfl).2
            have h8 : xb_i h cd e' = 4 := e4
            rw [h8] at h9
            exact absurd h9 (by decide)
          | none =>
            have h8 : xb_i h cd o = 4 := e4
            have ho : (f t.length).toInt = o := hpl
            have hop : o + 1 < p := d3.2.1
            have eo1 : (f t.length + 1).toInt = o + 1 := by rw [z_add, ho]; simp only [Int32.reduceToInt]; omega
            unfold w_Reader_readExpression_L143
            refine ⟨k1, nt, n1, op, n4, n5, by rw [z_in, e11, rdE_n, n6]; simp only [List.length_cons] at d2; omega, n2, by rw [rdE_iop, c11, z_in, eo1, rdE_n, n3]; omega, fun h9 e9 => ?_⟩
            rw [rdE_iop, c11, z_cl, eo1, rdE_nt n8 n10] at e9
            subst e9
            refine ⟨op, n4, n5, by rw [z_in, e11, rdE_n, n6]; simp only [List.length_cons] at d2; omega, fun h12 e12 => ?_⟩
            rw [rdE_op, c11] at e12
            subst e12
            rw [show ((o : Int) + 1).toNat = o + 1 by omega]
            refine nxt _ _ _ _ _ (p + 1) (by omega) (by omega) (by omega) ⟨fun j hj => ?_, fun j hj => ?_, .inr ⟨c1, (o, some p) :: t, d1, d2, d3.el, ⟨?_, ?_⟩, ⟨⟨d5.1.1, fun e9 => (by cases e9), fun e9 h9 => ?_⟩, d5.2⟩, d6.els d3 (by omega) h8 hv, fun h9 => absurd (c1.symm.trans h9) (by decide), fun _ => ⟨?_, mf, by omega, ?_⟩⟩⟩
            · have hao : a0 ≤ o := d5.1.1
              rw [xh_up, if_neg (by omega)]; exact L1 j hj
            · rw [xh_up, if_neg (by omega)]; exact L2 j (by omega)
            · rw [xh_up, if_pos rfl]; exact hv
            · exact d4.2.up (by omega)
            · cases h9
              have h10 := wk_sh2 (by omega) (show wk_sh ((xb_i h cd p).toInt % 256) = 2 by omega)
              refine ⟨h8, ?_⟩
              rw [z_eq]
              simp only [Int32.reduceToInt]
              omega
            · have := w1.els (w := v) sh2
              rw [show b + p - b = p by omega] at this
              exact this
            · have hon : o < N := by omega
              have hk4 : kk_ cb b (o, none) = 4 := by
                show ub cb (b + o) = 4
                rw [z_eq, ub_i, ← hs.2.2.2.2 o hon, h8]
                rfl
              rw [w3, List.map_cons, hk4, pEx_e4 (by omega) sh2]
              rfl
      · rw [lit] at e
        simp only [Int32.reduceToInt] at e
        unfold w_Reader_readExpression_L182
        match st, d1, d2, d3, d4, d5, d6, w1, w3 with
        | [], d1, d2, d3, d4, d5, d6, w1, w3 =>
          have e0 : x1 = 0 := by rw [z_eq, d1]; rfl
          refine ⟨fun h9 => absurd e0 h9, fun _ y1 ey => ⟨k1, op, n4, n5, ?_, ?_⟩⟩
          · rw [e0] at ey
            rw [ey, rdE_n, n6, z_in]
            decide
          · refine sp_Reader_noteEnd (p := p) hs.2.2.1 hn hcd hv (by omega) (fun _ _ => ?_) (fun h9 => absurd h9 (by decide))
            refine nxt _ _ _ _ _ (p + 1) (by omega) (by omega) (by omega) ⟨fun j hj => by rw [xh_up, if_neg (by omega)]; exact L1 j hj, fun j hj => by rw [xh_up, if_neg (by omega)]; exact L2 j (by omega), .inl ⟨rfl, by omega, d6.fin (by omega) (by decide), fun _ => ⟨?_, ?_⟩, fun h9 => absurd h9 (by decide)⟩⟩
            · have := w1.fin (w := 1) (hsh (s := 3) (by omega))
              rw [show b + p - b = p by omega] at this
              exact this
            · rw [w3]
              show (pEx cb _ (mf + 1) (b + p) []).bind K = _
              rw [pEx_z0 (by omega) (hsh (by omega))]
              rfl
        | x :: t, d1, d2, d3, d4, d5, d6, w1, w3 =>
          have hx1 : x1.toInt = t.length + 1 := by rw [d1]; simp
          have e11 : (x1 - 1).toInt = t.length := by rw [z_sub, hx1]; simp only [Int32.reduceToInt]; simp only [List.length_cons] at d2; omega
          refine ⟨fun _ y1 ey => ⟨k1, op, n4, n5, ?_, ?_⟩, fun h9 => ?_⟩
          · have ey1 : y1.toInt = t.length := by
              rw [ey]
              split
              · exact e11
              · rename_i h9
                rw [z_lt, e11] at h9
                simp only [Int32.reduceToInt] at h9 ⊢
                omega
            rw [z_in, ey1, rdE_n, n6]
            simp only [List.length_cons] at d2
            omega
          · have ey1 : y1.toInt = t.length := by
              rw [ey]
              split
              · exact e11
              · rename_i h9
                rw [z_lt, e11] at h9
                simp only [Int32.reduceToInt] at h9 ⊢
                omega
            have cy1 : y1.toNatClampNeg = t.length := by rw [z_cl, ey1]; omega
            have hpl : (f t.length).toInt = wk_pl x := d4.1
            rw [rdE_iop, cy1]
            have fin : ∀ k : Nat, k = wk_key x → w_Reader_readExpression_L227 (w_Reader_readExpression_L6 Qr Qt m) Qr Qt rd y1 0 x3 (rd_E h rd nt op v1 (va_up ν k v) f) bc bs := by
              intro k hk
              subst hk
              have hkp := d3.1
              have hka := wk_c.key d5 d3 (List.mem_cons_self)
              refine nxt _ _ _ _ _ (p + 1) (by omega) (by omega) (by omega) ⟨fun j hj => ?_, fun j hj => ?_, .inr ⟨rfl, t, ey1, by simp only [List.length_cons] at d2; omega, d3.tl, d4.2, d5.2, d6.ends d3 (by omega) (L2 p (by omega)) hv, fun h9 => absurd h9 (by decide), fun _ => ⟨?_, mf, by omega, ?_⟩⟩⟩
              · rw [xh_up, if_neg (by omega)]; exact L1 j hj
              · rw [xh_up, if_neg (by omega)]; exact L2 j (by omega)
              · exact w1.ends (hsh (by omega))
              · rw [w3, List.map_cons, pEx_z1 (by omega) (hsh (by omega))]
                rfl
            refine sp_Reader_noteEnd (p := p) hs.2.2.1 hn hcd hv (by omega) (fun h9 => absurd rfl h9) (fun _ => ?_)
            obtain ⟨o, e'⟩ := x
            cases e' with
            | none =>
              have ho : (f t.length).toInt = o := hpl
              have hop : o + 1 < p := d3.2.1
              rw [ho]
              refine ⟨by omega, by omega, fun e5 => ?_, fun _ _ => fin _ (by show (o : Int).toNat + 1 = o + 1; omega)⟩
              exfalso
              have h10 := d5.1.2.1 rfl
              dsimp only at h10
              rw [Int.toNat_natCast] at e5
              rw [e5] at h10
              simp only [Int32.reduceToInt] at h10
              omega
            | some e' =>
              have ho : (f t.length).toInt = e' := hpl
              have hop : e' < p := d3.1
              rw [ho]
              refine ⟨by omega, by omega, fun _ _ => fin _ (by show (e' : Int).toNat = e'; omega), fun e5 => ?_⟩
              exfalso
              rw [Int.toNat_natCast] at e5
              exact e5 (d5.1.2.2 e' rfl).2
          · rw [z_eq, hx1] at h9
            simp only [Int32.reduceToInt] at h9
            omega
      · rw [lit] at e
        simp only [Int32.reduceToInt] at e
        unfold w_Reader_readExpression_L219
        exact ⟨k1, y_readOperands hT hX hs hn hcd' hc hb hbc hr hv (by omega) (by omega) ⟨by omega, by omega, wk_sh13⟩ (wO (by omega)) (fun q v' ν' j1 j2 j20 j21 j3 j4 j5 _ => opr _ rfl (by omega) q v' ν' j1 j2 j20 j21 j3 j4 j5)⟩
      · rw [lit] at e
        simp only [Int32.reduceToInt] at e
        exact y_readLabels hT hX hs hn hcd' hc hb hv (by omega) (by omega) (by have h9 := wO (by omega); rw [show wk_sh ((xb_i h cd p).toInt % 256) = 5 by omega] at h9; exact h9) (fun q v' ν' j1 j2 j20 j21 j3 j4 j5 _ => opr 5 (by omega) (by omega) q v' ν' j1 j2 j20 j21 j3 j4 j5)
      · rw [lit] at e0 e1 e2 e3 e4 e5
        simp only [Int32.reduceToInt] at e0 e1 e2 e3 e4 e5
        unfold w_Reader_readExpression_L219
        exact ⟨k1, y_readOperands hT hX hs hn hcd' hc hb hbc hr hv (by omega) (by omega) ⟨by omega, by omega, wk_sh13⟩ (wO (by omega)) (fun q v' ν' j1 j2 j20 j21 j3 j4 j5 _ => opr _ rfl (by omega) q v' ν' j1 j2 j20 j21 j3 j4 j5)⟩
theorem y_readExpression {a0 : Nat} {ν0 : Nat → Int32} {Qr : xb_H → Nat → Nat → Prop} (hT : rdT h0 rd op md rc rs b R Qt) (hX : rd_X h0 h rd op md) (hs : rq h rd md cd N b (b + a0) e cb) (hn : rd_n h0 h rd nt op N) (hc : rc + 1 ≤ bc) (hb : rs + 6 ≤ bs) (ha0 : 0 < a0) (hbc : ∀ j, -128 ≤ (cb j).toInt ∧ (cb j).toInt ≤ 127) (hR : R = (pExp cb e (b + a0)).bind K)
    (hby : ∀ j, -128 ≤ (xb_i h cd j).toInt ∧ (xb_i h cd j).toInt ≤ 127) (hcd : cd ≠ nt ∧ cd ≠ op ∧ cd ≠ rd) (hν : xb_i h nt = ν0) (hz : ∀ j, a0 ≤ j → ν0 j = 0)
    (hQ : ∀ (q : Nat) (v' : Int32) (ν' f' : Nat → Int32), v'.toInt = q → a0 < q → b + q ≤ e → (∀ j, j < a0 → ν' j = ν0 j) → (∀ j, q ≤ j → ν' j = 0) → (∃ m, wk (xb_i h cd) ν' q m a0 []) → (∃ m, wkC cb ν' b (b + q) m (b + a0) 0) → R = K (b + q) → Qr (rd_E h rd nt op v' ν' f') bc bs) : w_Reader_readExpression rd h bc bs Qr Qt := by
  obtain ⟨n1, n2, n3, n4, n5, n6, n7, n8, n9, n10⟩ := id hn
  have hix := hs.ix
  unfold w_Reader_readExpression
  refine ⟨N + 1, ?_⟩
  have h1 := y_readExpressionL (Qr := Qr) hT hX hs hn hc hb ha0 hbc hby hcd hQ N 0 0 0 (xb_i h rd 3) (xb_i h nt) (xb_i h op) a0 (by omega) (by omega) (by omega) (by simp) (by simp) (by simp) ⟨fun j _ => by rw [hν], fun j hj => by rw [hν]; exact hz j hj, .inr ⟨rfl, [], rfl, by simp, trivial, trivial, trivial, fun E nu _ hw => hw, fun h9 => absurd h9 (by decide), fun _ => ⟨fun E nu _ hw => hw, _, Nat.le_refl _, hR⟩⟩⟩
  rw [rdE_self n8 n9 n10] at h1
  exact h1
end CR5
